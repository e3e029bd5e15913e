section G_X1_takeBack
variable {p : Program} {l : Launch} {e : Env} {s : State} {m : MethodId} {args : Array Value} {below : List Frame} {meth : Method} {c : Code} {D : va_G} {K : Nat → ClassId} {b0 N : Nat}
set_option maxRecDepth 100000 in
set_option maxHeartbeats 4000000 in
theorem w_X1_takeBack_40 {res : (Int32 × zh_H)} (hB : zc_B p s m args meth c cX1_takeBack 2 RX1 (some .boolean) D K) : ∀ (H : Heap) (locs : List Loc) (ls : Array Slot) (h : zh_H) (x0 : Nat) (y0 : Int32) (y1 : Nat), zh_G D K b0 N h s.heap H locs → lv_has ls 2 [(0, .ref x0)] → b_X1_takeBack_40 h x0 y0 y1 = some res → W p l e (zc_rm 3 0 0) s m args below meth c H locs 0 0 (MQ below (zc_Q D K b0 (zq (some (.int res.1)) N res.2)) args s 0 0 (fun q => b0 ≤ q)) (F0 m 40 ls [.int y0, .ref y1]) := by
  have hx := hB.1
  have hb := hB.2.1
  intro H locs ls h x0 y0 y1 hG hl hf
  unfold b_X1_takeBack_40 at hf
  obtain ⟨h1, eh1, hf⟩ := zb hf
  refine zr_put hB hG zF_1 (by decide) kf_X1_20 rfl rfl rfl eh1 dX1_takeBack_40 (fun H locs hG => ?_)
  refine lv_aload_n hx hb dX1_takeBack_43 rfl (lv_at hl 0 rfl) ?_
  refine lv_dup hx hb dX1_takeBack_44 rfl ?_
  obtain ⟨v2, ev2, hf⟩ := zb hf
  refine zr_getI hB hG zF_1 (by decide) kf_X1_28 ev2 dX1_takeBack_45 ?_
  refine lv_iconst (v := 1) hx hb dX1_takeBack_48 (by decide) ?_
  refine lv_isub hx hb dX1_takeBack_49 ?_
  obtain ⟨h3, eh3, hf⟩ := zb hf
  refine zr_put hB hG zF_1 (by decide) kf_X1_28 rfl rfl rfl eh3 dX1_takeBack_50 (fun H locs hG => ?_)
  refine lv_iconst (v := 1) hx hb dX1_takeBack_53 (by decide) ?_
  obtain rfl := Option.some.inj hf
  exact zr_zret hB hG (by decide) ⟨rfl, rfl, rfl⟩ dX1_takeBack_54

set_option maxRecDepth 100000 in
set_option maxHeartbeats 4000000 in
theorem w_X1_takeBack_0 {res : (Int32 × zh_H)} (hB : zc_B p s m args meth c cX1_takeBack 2 RX1 (some .boolean) D K) : ∀ (H : Heap) (locs : List Loc) (ls : Array Slot) (h : zh_H) (x0 : Nat) (x1 : Nat), zh_G D K b0 N h s.heap H locs → lv_has ls 2 [(0, .ref x0), (1, .ref x1)] → b_X1_takeBack_0 h x0 x1 = some res → W p l e (zc_rm 3 0 0) s m args below meth c H locs 0 0 (MQ below (zc_Q D K b0 (zq (some (.int res.1)) N res.2)) args s 0 0 (fun q => b0 ≤ q)) (F0 m 0 ls []) := by
  have hx := hB.1
  have hb := hB.2.1
  intro H locs ls h x0 x1 hG hl hf
  unfold b_X1_takeBack_0 at hf
  refine lv_aload_n hx hb dX1_takeBack_0 rfl (lv_at hl 0 rfl) ?_
  obtain ⟨v1, ev1, hf⟩ := zb hf
  refine zr_getI hB hG zF_1 (by decide) kf_X1_28 ev1 dX1_takeBack_1 ?_
  refine lv_if_ne (tgt := 9) hx hb dX1_takeBack_4 (by decide) (fun hc10 => ?_) (fun hc10 => ?_)
  · rw [if_neg hc10] at hf
    refine lv_aload_n hx hb dX1_takeBack_9 rfl (lv_at hl 1 rfl) ?_
    refine lv_aload_n hx hb dX1_takeBack_10 rfl (lv_at hl 0 rfl) ?_
    obtain ⟨a2, ea2, hf⟩ := zb hf
    refine zr_getR hB hG zF_1 (by decide) kf_X1_11 ea2 dX1_takeBack_11 ?_
    refine lv_aload_n hx hb dX1_takeBack_14 rfl (lv_at hl 0 rfl) ?_
    obtain ⟨v3, ev3, hf⟩ := zb hf
    refine zr_getI hB hG zF_1 (by decide) kf_X1_20 ev3 dX1_takeBack_15 ?_
    obtain ⟨a4, ea4, hf⟩ := zb hf
    refine zr_aald ⟨_, rfl⟩ hB hG ea4 dX1_takeBack_18 ?_
    obtain ⟨o5, eo5, hf⟩ := zb hf
    obtain ⟨h6, eh6, hf⟩ := zb hf
    refine zr_callVv (As := [.ref a4]) kc_X1_24 hB hG (c_X0_copyFrom eh6) eo5 rfl hl.1 rfl ⟨by decide, by decide⟩ (Nat.le_of_ble_eq_true rfl) ⟨by decide, by decide⟩ dX1_takeBack_19 (fun H locs hG => ?_)
    refine lv_aload_n hx hb dX1_takeBack_22 rfl (lv_at hl 0 rfl) ?_
    refine lv_aload_n hx hb dX1_takeBack_23 rfl (lv_at hl 0 rfl) ?_
    obtain ⟨v7, ev7, hf⟩ := zb hf
    refine zr_getI hB hG zF_1 (by decide) kf_X1_20 ev7 dX1_takeBack_24 ?_
    refine lv_if_le (tgt := 39) hx hb dX1_takeBack_27 (by decide) (fun hc9 => ?_) (fun hc9 => ?_)
    · rw [if_pos hc9] at hf
      refine lv_iconst (v := 4) hx hb dX1_takeBack_39 (by decide) ?_
      exact w_X1_takeBack_40 hB _ _ _ h6 (x0) ((4 : Int32)) (x0) hG (lv_sub hl [0] rfl) hf
    · rw [if_neg hc9] at hf
      refine lv_aload_n hx hb dX1_takeBack_30 rfl (lv_at hl 0 rfl) ?_
      obtain ⟨v8, ev8, hf⟩ := zb hf
      refine zr_getI hB hG zF_1 (by decide) kf_X1_20 ev8 dX1_takeBack_31 ?_
      refine lv_iconst (v := 1) hx hb dX1_takeBack_34 (by decide) ?_
      refine lv_isub hx hb dX1_takeBack_35 ?_
      refine lv_goto (tgt := 40) hx hb dX1_takeBack_36 (by decide) ?_
      exact w_X1_takeBack_40 hB _ _ _ h6 (x0) ((v8 - (1 : Int32))) (x0) hG (lv_sub hl [0] rfl) hf
  · rw [if_pos hc10] at hf
    refine lv_iconst (v := 0) hx hb dX1_takeBack_7 (by decide) ?_
    obtain rfl := Option.some.inj hf
    exact zr_zret hB hG (by decide) ⟨rfl, rfl, rfl⟩ dX1_takeBack_8
end G_X1_takeBack
theorem c_X1_takeBack {l : Launch} {D : va_G} {K : Nat → ClassId} {b0 N : Nat} {h : zh_H} {x0 : Nat} {x1 : Nat} {r : Int32} {h2 : zh_H} (hf : b_X1_takeBack_0 h x0 x1 = some (r, h2)) : zc l yX1_takeBack cX1_takeBack 2 (some .boolean) 3 0 0 D K b0 N h [.ref x0, .ref x1] (zq (some (.int r)) N h2) := by
  refine zc.of [(0, .ref x0), (1, .ref x1)] (by decide) rfl (Nat.le_of_ble_eq_true rfl) ?_
  intro p e s m args below meth c hB hnm hG ls hl
  exact w_X1_takeBack_0 (res := (r, h2)) hB _ _ ls h x0 x1 hG (lv_sub hl [0, 1] rfl) hf

section G_X10_undo
variable {p : Program} {l : Launch} {e : Env} {s : State} {m : MethodId} {args : Array Value} {below : List Frame} {meth : Method} {c : Code} {D : va_G} {K : Nat → ClassId} {b0 N : Nat}
set_option maxRecDepth 100000 in
set_option maxHeartbeats 4000000 in
theorem w_X10_undo_25 {res : (Int32 × zh_H)} (hB : zc_B p s m args meth c cX10_undo 1 RX10 (some .int) D K) : ∀ (H : Heap) (locs : List Loc) (ls : Array Slot) (h : zh_H) (y0 : Int32), zh_G D K b0 N h s.heap H locs → lv_has ls 1 [] → b_X10_undo_25 h y0 = some res → W p l e (zc_rm 4 0 0) s m args below meth c H locs 0 0 (MQ below (zc_Q D K b0 (zq (some (.int res.1)) N res.2)) args s 0 0 (fun q => b0 ≤ q)) (F0 m 25 ls [.int y0]) := by
  have hx := hB.1
  have hb := hB.2.1
  intro H locs ls h y0 hG hl hf
  unfold b_X10_undo_25 at hf
  obtain rfl := Option.some.inj hf
  exact zr_iret hB hG ⟨rfl, rfl, rfl⟩ dX10_undo_25

set_option maxRecDepth 100000 in
set_option maxHeartbeats 4000000 in
theorem w_X10_undo_0 {res : (Int32 × zh_H)} (hB : zc_B p s m args meth c cX10_undo 1 RX10 (some .int) D K) : ∀ (H : Heap) (locs : List Loc) (ls : Array Slot) (h : zh_H) (x0 : Nat), zh_G D K b0 N h s.heap H locs → lv_has ls 1 [(0, .ref x0)] → b_X10_undo_0 h x0 = some res → W p l e (zc_rm 4 0 0) s m args below meth c H locs 0 0 (MQ below (zc_Q D K b0 (zq (some (.int res.1)) N res.2)) args s 0 0 (fun q => b0 ≤ q)) (F0 m 0 ls []) := by
  have hx := hB.1
  have hb := hB.2.1
  intro H locs ls h x0 hG hl hf
  unfold b_X10_undo_0 at hf
  refine lv_aload_n hx hb dX10_undo_0 rfl (lv_at hl 0 rfl) ?_
  obtain ⟨a1, ea1, hf⟩ := zb hf
  refine zr_getR hB hG zF_10 (by decide) kf_X10_27 ea1 dX10_undo_1 ?_
  refine lv_aload_n hx hb dX10_undo_4 rfl (lv_at hl 0 rfl) ?_
  obtain ⟨a2, ea2, hf⟩ := zb hf
  refine zr_getR hB hG zF_10 (by decide) kf_X10_18 ea2 dX10_undo_5 ?_
  obtain ⟨o3, eo3, hf⟩ := zb hf
  obtain ⟨v5, h4, eh4, hf⟩ := zbp_s hf
  refine zr_callV (As := [.ref a2]) kc_X10_134 hB hG (c_X1_takeBack eh4) eo3 rfl hl.1 rfl ⟨by decide, by decide⟩ (Nat.le_of_ble_eq_true rfl) ⟨by decide, by decide⟩ dX10_undo_8 (fun H locs hG => ?_)
  refine lv_if_eq (tgt := 24) hx hb dX10_undo_11 (by decide) (fun hc8 => ?_) (fun hc8 => ?_)
  · rw [if_pos hc8] at hf
    refine lv_iconst (v := -1) hx hb dX10_undo_24 (by decide) ?_
    exact w_X10_undo_25 hB _ _ _ h4 ((-1 : Int32)) hG (lv_sub hl [] rfl) hf
  · rw [if_neg hc8] at hf
    refine lv_aload_n hx hb dX10_undo_14 rfl (lv_at hl 0 rfl) ?_
    obtain ⟨a6, ea6, hf⟩ := zb hf
    refine zr_getR hB hG zF_10 (by decide) kf_X10_18 ea6 dX10_undo_15 ?_
    obtain ⟨v7, ev7, hf⟩ := zb hf
    refine zr_getI hB hG zF_0 (by decide) kf_X10_85 ev7 dX10_undo_18 ?_
    refine lv_goto (tgt := 25) hx hb dX10_undo_21 (by decide) ?_
    exact w_X10_undo_25 hB _ _ _ h4 (v7) hG (lv_sub hl [] rfl) hf
end G_X10_undo
theorem c_X10_undo {l : Launch} {D : va_G} {K : Nat → ClassId} {b0 N : Nat} {h : zh_H} {x0 : Nat} {r : Int32} {h2 : zh_H} (hf : b_X10_undo_0 h x0 = some (r, h2)) : zc l yX10_undo cX10_undo 1 (some .int) 4 0 0 D K b0 N h [.ref x0] (zq (some (.int r)) N h2) := by
  refine zc.of [(0, .ref x0)] (by decide) rfl (Nat.le_of_ble_eq_true rfl) ?_
  intro p e s m args below meth c hB hnm hG ls hl
  exact w_X10_undo_0 (res := (r, h2)) hB _ _ ls h x0 hG (lv_sub hl [0] rfl) hf

section G_X10_which
variable {p : Program} {l : Launch} {e : Env} {s : State} {m : MethodId} {args : Array Value} {below : List Frame} {meth : Method} {c : Code} {D : va_G} {K : Nat → ClassId} {b0 N : Nat}
set_option maxRecDepth 100000 in
set_option maxHeartbeats 4000000 in
theorem w_X10_which_84 {res : (Int32 × zh_H)} (hB : zc_B p s m args meth c cX10_which 8 RX10 (some .int) D K) {k26 : zh_H → Nat → Int32 → Int32 → Int32 → Int32 → Int32 → Int32 → Option (Int32 × zh_H)} (hk26 : ∀ (H : Heap) (locs : List Loc) (ls : Array Slot) (h : zh_H) (x0 : Nat) (x1 : Int32) (x2 : Int32) (x3 : Int32) (x4 : Int32) (x5 : Int32) (x6 : Int32), zh_G D K b0 N h s.heap H locs → lv_has ls 8 [(0, .ref x0), (1, .int x1), (2, .int x2), (3, .int x3), (4, .int x4), (5, .int x5), (6, .int x6)] → k26 h x0 x1 x2 x3 x4 x5 x6 = some res → W p l e (zc_rm 6 0 0) s m args below meth c H locs 0 0 (MQ below (zc_Q D K b0 (zq (some (.int res.1)) N res.2)) args s 0 0 (fun q => b0 ≤ q)) (F0 m 26 ls [])) : ∀ (H : Heap) (locs : List Loc) (ls : Array Slot) (h : zh_H) (x0 : Nat) (x1 : Int32) (x2 : Int32) (x3 : Int32) (x4 : Int32) (x5 : Int32) (x6 : Int32), zh_G D K b0 N h s.heap H locs → lv_has ls 8 [(0, .ref x0), (1, .int x1), (2, .int x2), (3, .int x3), (4, .int x4), (5, .int x5), (6, .int x6)] → b_X10_which_84 k26 h x0 x1 x2 x3 x4 x5 x6 = some res → W p l e (zc_rm 6 0 0) s m args below meth c H locs 0 0 (MQ below (zc_Q D K b0 (zq (some (.int res.1)) N res.2)) args s 0 0 (fun q => b0 ≤ q)) (F0 m 84 ls []) := by
  have hx := hB.1
  have hb := hB.2.1
  intro H locs ls h x0 x1 x2 x3 x4 x5 x6 hG hl hf
  unfold b_X10_which_84 at hf
  refine lv_iinc (v := (x6 + (1 : Int32))) (lv' := [(6, .int (x6 + (1 : Int32))), (0, .ref x0), (1, .int x1), (2, .int x2), (3, .int x3), (4, .int x4), (5, .int x5)]) hx hb dX10_which_84 hl (k := 6) rfl rfl (by decide) rfl (fun ls hl => ?_)
  refine lv_goto (tgt := 26) hx hb dX10_which_87 (by decide) ?_
  exact hk26 _ _ _ h (x0) (x1) (x2) (x3) (x4) (x5) ((x6 + (1 : Int32))) hG (lv_sub hl [1, 2, 3, 4, 5, 6, 0] rfl) hf

set_option maxRecDepth 100000 in
set_option maxHeartbeats 4000000 in
theorem w_X10_which_26 {res : (Int32 × zh_H)} (hB : zc_B p s m args meth c cX10_which 8 RX10 (some .int) D K) : ∀ n : Nat, ∀ (H : Heap) (locs : List Loc) (ls : Array Slot) (h : zh_H) (x0 : Nat) (x1 : Int32) (x2 : Int32) (x3 : Int32) (x4 : Int32) (x5 : Int32) (x6 : Int32), zh_G D K b0 N h s.heap H locs → lv_has ls 8 [(0, .ref x0), (1, .int x1), (2, .int x2), (3, .int x3), (4, .int x4), (5, .int x5), (6, .int x6)] → b_X10_which_26 n h x0 x1 x2 x3 x4 x5 x6 = some res → W p l e (zc_rm 6 0 0) s m args below meth c H locs 0 0 (MQ below (zc_Q D K b0 (zq (some (.int res.1)) N res.2)) args s 0 0 (fun q => b0 ≤ q)) (F0 m 26 ls []) := by
  have hx := hB.1
  have hb := hB.2.1
  intro n
  induction n with
  | zero =>
    intro H locs ls h x0 x1 x2 x3 x4 x5 x6 hG hl hf
    cases hf
  | succ n ih =>
    intro H locs ls h x0 x1 x2 x3 x4 x5 x6 hG hl hf
    unfold b_X10_which_26 at hf
    refine lv_iload hx hb dX10_which_26 (lv_at hl 6 rfl) ?_
    refine lv_bipush (v := 8) hx hb dX10_which_28 (by decide) ?_
    refine lv_icmp_ge (tgt := 90) hx hb dX10_which_30 (by decide) (fun hc13 => ?_) (fun hc13 => ?_)
    · rw [if_pos hc13] at hf
      refine lv_iload hx hb dX10_which_90 (lv_at hl 4 rfl) ?_
      obtain rfl := Option.some.inj hf
      exact zr_iret hB hG ⟨rfl, rfl, rfl⟩ dX10_which_92
    · rw [if_neg hc13] at hf
      refine lv_aload_n hx hb dX10_which_33 rfl (lv_at hl 0 rfl) ?_
      refine lv_iload hx hb dX10_which_34 (lv_at hl 6 rfl) ?_
      obtain ⟨o1, eo1, hf⟩ := zb hf
      obtain ⟨v3, h2, eh2, hf⟩ := zbp_s hf
      refine zr_callV (As := [.int x6]) kc_X10_113 hB hG (c_X10_isPattern eh2) eo1 rfl hl.1 rfl ⟨by decide, by decide⟩ (Nat.le_of_ble_eq_true rfl) ⟨by decide, by decide⟩ dX10_which_36 (fun H locs hG => ?_)
      refine lv_if_eq (tgt := 84) hx hb dX10_which_39 (by decide) (fun hc12 => ?_) (fun hc12 => ?_)
      · rw [if_pos hc12] at hf
        exact w_X10_which_84 hB ih _ _ _ h2 (x0) (x1) (x2) (x3) (x4) (x5) (x6) hG (lv_sub hl [0, 1, 2, 3, 4, 5, 6] rfl) hf
      · rw [if_neg hc12] at hf
        refine lv_aload_n hx hb dX10_which_42 rfl (lv_at hl 0 rfl) ?_
        obtain ⟨a4, ea4, hf⟩ := zb hf
        refine zr_getR hB hG zF_10 (by decide) kf_X10_59 ea4 dX10_which_43 ?_
        refine lv_aload_n hx hb dX10_which_46 rfl (lv_at hl 0 rfl) ?_
        obtain ⟨a5, ea5, hf⟩ := zb hf
        refine zr_getR hB hG zF_10 (by decide) kf_X10_33 ea5 dX10_which_47 ?_
        refine lv_iload hx hb dX10_which_50 (lv_at hl 6 rfl) ?_
        obtain ⟨a6, ea6, hf⟩ := zb hf
        refine zr_aald ⟨_, rfl⟩ hB hG ea6 dX10_which_52 ?_
        refine lv_aload_n hx hb dX10_which_53 rfl (lv_at hl 0 rfl) ?_
        obtain ⟨a7, ea7, hf⟩ := zb hf
        refine zr_getR hB hG zF_10 (by decide) kf_X10_18 ea7 dX10_which_54 ?_
        refine lv_iload_n hx hb dX10_which_57 rfl (lv_at hl 1 rfl) ?_
        refine lv_iload_n hx hb dX10_which_58 rfl (lv_at hl 2 rfl) ?_
        refine lv_iload_n hx hb dX10_which_59 rfl (lv_at hl 3 rfl) ?_
        refine lv_iload hx hb dX10_which_60 (lv_at hl 5 rfl) ?_
        obtain ⟨o8, eo8, hf⟩ := zb hf
        obtain ⟨v10, h9, eh9, hf⟩ := zbp_s hf
        refine zr_callV (As := [.ref a6, .ref a7, .int x1, .int x2, .int x3, .int x5]) kc_X10_212 hB hG (c_X5_distance eh9) eo8 rfl hl.1 rfl ⟨by decide, by decide⟩ (Nat.le_of_ble_eq_true rfl) ⟨by decide, by decide⟩ dX10_which_62 (fun H locs hG => ?_)
        refine lv_istore (lv' := [(7, .int v10), (0, .ref x0), (1, .int x1), (2, .int x2), (3, .int x3), (4, .int x4), (5, .int x5), (6, .int x6)]) hx hb dX10_which_65 hl (by decide) rfl (fun ls hl => ?_)
        refine lv_iload hx hb dX10_which_67 (lv_at hl 0 rfl) ?_
        refine lv_iload hx hb dX10_which_69 (lv_at hl 6 rfl) ?_
        refine lv_icmp_gt (tgt := 84) hx hb dX10_which_71 (by decide) (fun hc11 => ?_) (fun hc11 => ?_)
        · rw [if_pos hc11] at hf
          exact w_X10_which_84 hB ih _ _ _ h9 (x0) (x1) (x2) (x3) (x4) (x5) (x6) hG (lv_sub hl [1, 2, 3, 4, 5, 6, 7] rfl) hf
        · rw [if_neg hc11] at hf
          refine lv_iload hx hb dX10_which_74 (lv_at hl 7 rfl) ?_
          refine lv_istore (lv' := [(4, .int x6), (7, .int v10), (0, .ref x0), (1, .int x1), (2, .int x2), (3, .int x3), (5, .int x5), (6, .int x6)]) hx hb dX10_which_76 hl (by decide) rfl (fun ls hl => ?_)
          refine lv_iload hx hb dX10_which_78 (lv_at hl 1 rfl) ?_
          refine lv_iconst (v := 1) hx hb dX10_which_80 (by decide) ?_
          refine lv_isub hx hb dX10_which_81 ?_
          refine lv_istore (lv' := [(5, .int (v10 - (1 : Int32))), (4, .int x6), (7, .int v10), (0, .ref x0), (1, .int x1), (2, .int x2), (3, .int x3), (6, .int x6)]) hx hb dX10_which_82 hl (by decide) rfl (fun ls hl => ?_)
          exact w_X10_which_84 hB ih _ _ _ h9 (x0) (x1) (x2) (x3) (x6) ((v10 - (1 : Int32))) (x6) hG (lv_sub hl [3, 4, 5, 6, 1, 0, 7] rfl) hf

set_option maxRecDepth 100000 in
set_option maxHeartbeats 4000000 in
theorem w_X10_which_0 {res : (Int32 × zh_H)} (hB : zc_B p s m args meth c cX10_which 8 RX10 (some .int) D K) : ∀ (H : Heap) (locs : List Loc) (ls : Array Slot) (h : zh_H) (x0 : Nat) (x1 : Int32) (x2 : Int32) (x3 : Int32), zh_G D K b0 N h s.heap H locs → lv_has ls 8 [(0, .ref x0), (1, .int x1), (2, .int x2), (3, .int x3)] → b_X10_which_0 h x0 x1 x2 x3 = some res → W p l e (zc_rm 6 0 0) s m args below meth c H locs 0 0 (MQ below (zc_Q D K b0 (zq (some (.int res.1)) N res.2)) args s 0 0 (fun q => b0 ≤ q)) (F0 m 0 ls []) := by
  have hx := hB.1
  have hb := hB.2.1
  intro H locs ls h x0 x1 x2 x3 hG hl hf
  unfold b_X10_which_0 at hf
  refine lv_aload_n hx hb dX10_which_0 rfl (lv_at hl 0 rfl) ?_
  obtain ⟨a1, ea1, hf⟩ := zb hf
  refine zr_getR hB hG zF_10 (by decide) kf_X10_18 ea1 dX10_which_1 ?_
  refine lv_iload_n hx hb dX10_which_4 rfl (lv_at hl 1 rfl) ?_
  refine lv_iload_n hx hb dX10_which_5 rfl (lv_at hl 2 rfl) ?_
  obtain ⟨o2, eo2, hf⟩ := zb hf
  obtain ⟨v4, h3, eh3, hf⟩ := zbp_s hf
  refine zr_callV (As := [.int x1, .int x2]) kc_X10_127 hB hG (c_X0_isPart eh3) eo2 rfl hl.1 rfl ⟨by decide, by decide⟩ (Nat.le_of_ble_eq_true rfl) ⟨by decide, by decide⟩ dX10_which_6 (fun H locs hG => ?_)
  refine lv_if_ne (tgt := 15) hx hb dX10_which_9 (by decide) (fun hc5 => ?_) (fun hc5 => ?_)
  · rw [if_neg hc5] at hf
    refine lv_iconst (v := -1) hx hb dX10_which_15 (by decide) ?_
    refine lv_istore (lv' := [(4, .int (-1 : Int32)), (0, .ref x0), (1, .int x1), (2, .int x2), (3, .int x3)]) hx hb dX10_which_16 hl (by decide) rfl (fun ls hl => ?_)
    refine lv_sipush (v := 2000) hx hb dX10_which_18 (by decide) ?_
    refine lv_istore (lv' := [(5, .int (2000 : Int32)), (4, .int (-1 : Int32)), (0, .ref x0), (1, .int x1), (2, .int x2), (3, .int x3)]) hx hb dX10_which_21 hl (by decide) rfl (fun ls hl => ?_)
    refine lv_iconst (v := 0) hx hb dX10_which_23 (by decide) ?_
    refine lv_istore (lv' := [(6, .int (0 : Int32)), (5, .int (2000 : Int32)), (4, .int (-1 : Int32)), (0, .ref x0), (1, .int x1), (2, .int x2), (3, .int x3)]) hx hb dX10_which_24 hl (by decide) rfl (fun ls hl => ?_)
    exact w_X10_which_26 hB zFuel _ _ _ h3 (x0) (x1) (x2) (x3) ((-1 : Int32)) ((2000 : Int32)) ((0 : Int32)) hG (lv_sub hl [3, 4, 5, 6, 2, 1, 0] rfl) hf
  · rw [if_pos hc5] at hf
    refine lv_bipush (v := -2) hx hb dX10_which_12 (by decide) ?_
    obtain rfl := Option.some.inj hf
    exact zr_iret hB hG ⟨rfl, rfl, rfl⟩ dX10_which_14
end G_X10_which
theorem c_X10_which {l : Launch} {D : va_G} {K : Nat → ClassId} {b0 N : Nat} {h : zh_H} {x0 : Nat} {x1 : Int32} {x2 : Int32} {x3 : Int32} {r : Int32} {h2 : zh_H} (hf : b_X10_which_0 h x0 x1 x2 x3 = some (r, h2)) : zc l yX10_which cX10_which 8 (some .int) 6 0 0 D K b0 N h [.ref x0, .int x1, .int x2, .int x3] (zq (some (.int r)) N h2) := by
  refine zc.of [(0, .ref x0), (1, .int x1), (2, .int x2), (3, .int x3)] (by decide) rfl (Nat.le_of_ble_eq_true rfl) ?_
  intro p e s m args below meth c hB hnm hG ls hl
  exact w_X10_which_0 (res := (r, h2)) hB _ _ ls h x0 x1 x2 x3 hG (lv_sub hl [0, 1, 2, 3] rfl) hf

section G_X10_whole
variable {p : Program} {l : Launch} {e : Env} {s : State} {m : MethodId} {args : Array Value} {below : List Frame} {meth : Method} {c : Code} {D : va_G} {K : Nat → ClassId} {b0 N : Nat}
set_option maxRecDepth 100000 in
set_option maxHeartbeats 4000000 in
theorem w_X10_whole_28 {res : (Int32 × zh_H)} (hB : zc_B p s m args meth c cX10_whole 7 RX10 (some .int) D K) : ∀ (H : Heap) (locs : List Loc) (ls : Array Slot) (h : zh_H), zh_G D K b0 N h s.heap H locs → lv_has ls 7 [] → b_X10_whole_28 h  = some res → W p l e (zc_rm 6 0 0) s m args below meth c H locs 0 0 (MQ below (zc_Q D K b0 (zq (some (.int res.1)) N res.2)) args s 0 0 (fun q => b0 ≤ q)) (F0 m 28 ls []) := by
  have hx := hB.1
  have hb := hB.2.1
  intro H locs ls h  hG hl hf
  unfold b_X10_whole_28 at hf
  refine lv_bipush (v := -2) hx hb dX10_whole_28 (by decide) ?_
  obtain rfl := Option.some.inj hf
  exact zr_iret hB hG ⟨rfl, rfl, rfl⟩ dX10_whole_30

set_option maxRecDepth 100000 in
set_option maxHeartbeats 4000000 in
theorem w_X10_whole_70 {res : (Int32 × zh_H)} (hB : zc_B p s m args meth c cX10_whole 7 RX10 (some .int) D K) : ∀ (H : Heap) (locs : List Loc) (ls : Array Slot) (h : zh_H) (y0 : Int32), zh_G D K b0 N h s.heap H locs → lv_has ls 7 [] → b_X10_whole_70 h y0 = some res → W p l e (zc_rm 6 0 0) s m args below meth c H locs 0 0 (MQ below (zc_Q D K b0 (zq (some (.int res.1)) N res.2)) args s 0 0 (fun q => b0 ≤ q)) (F0 m 70 ls [.int y0]) := by
  have hx := hB.1
  have hb := hB.2.1
  intro H locs ls h y0 hG hl hf
  unfold b_X10_whole_70 at hf
  obtain rfl := Option.some.inj hf
  exact zr_iret hB hG ⟨rfl, rfl, rfl⟩ dX10_whole_70

set_option maxRecDepth 100000 in
set_option maxHeartbeats 4000000 in
theorem w_X10_whole_0 {res : (Int32 × zh_H)} (hB : zc_B p s m args meth c cX10_whole 7 RX10 (some .int) D K) : ∀ (H : Heap) (locs : List Loc) (ls : Array Slot) (h : zh_H) (x0 : Nat) (x1 : Int32) (x2 : Int32) (x3 : Int32) (x4 : Int32) (x5 : Int32), zh_G D K b0 N h s.heap H locs → lv_has ls 7 [(0, .ref x0), (1, .int x1), (2, .int x2), (3, .int x3), (4, .int x4), (5, .int x5)] → b_X10_whole_0 h x0 x1 x2 x3 x4 x5 = some res → W p l e (zc_rm 6 0 0) s m args below meth c H locs 0 0 (MQ below (zc_Q D K b0 (zq (some (.int res.1)) N res.2)) args s 0 0 (fun q => b0 ≤ q)) (F0 m 0 ls []) := by
  have hx := hB.1
  have hb := hB.2.1
  intro H locs ls h x0 x1 x2 x3 x4 x5 hG hl hf
  unfold b_X10_whole_0 at hf
  refine lv_aload_n hx hb dX10_whole_0 rfl (lv_at hl 0 rfl) ?_
  refine lv_iload_n hx hb dX10_whole_1 rfl (lv_at hl 1 rfl) ?_
  obtain ⟨o1, eo1, hf⟩ := zb hf
  obtain ⟨v3, h2, eh2, hf⟩ := zbp_s hf
  refine zr_callV (As := [.int x1]) kc_X10_113 hB hG (c_X10_isPattern eh2) eo1 rfl hl.1 rfl ⟨by decide, by decide⟩ (Nat.le_of_ble_eq_true rfl) ⟨by decide, by decide⟩ dX10_whole_2 (fun H locs hG => ?_)
  refine lv_if_eq (tgt := 28) hx hb dX10_whole_5 (by decide) (fun hc20 => ?_) (fun hc20 => ?_)
  · rw [if_pos hc20] at hf
    exact w_X10_whole_28 hB _ _ _ h2  hG (lv_sub hl [] rfl) hf
  · rw [if_neg hc20] at hf
    refine lv_aload_n hx hb dX10_whole_8 rfl (lv_at hl 0 rfl) ?_
    obtain ⟨a4, ea4, hf⟩ := zb hf
    refine zr_getR hB hG zF_10 (by decide) kf_X10_18 ea4 dX10_whole_9 ?_
    refine lv_iload_n hx hb dX10_whole_12 rfl (lv_at hl 2 rfl) ?_
    refine lv_iload_n hx hb dX10_whole_13 rfl (lv_at hl 3 rfl) ?_
    obtain ⟨o5, eo5, hf⟩ := zb hf
    obtain ⟨v7, h6, eh6, hf⟩ := zbp_s hf
    refine zr_callV (As := [.int x2, .int x3]) kc_X10_127 hB hG (c_X0_isPart eh6) eo5 rfl hl.1 rfl ⟨by decide, by decide⟩ (Nat.le_of_ble_eq_true rfl) ⟨by decide, by decide⟩ dX10_whole_14 (fun H locs hG => ?_)
    refine lv_if_eq (tgt := 28) hx hb dX10_whole_17 (by decide) (fun hc19 => ?_) (fun hc19 => ?_)
    · rw [if_pos hc19] at hf
      exact w_X10_whole_28 hB _ _ _ h6  hG (lv_sub hl [] rfl) hf
    · rw [if_neg hc19] at hf
      refine lv_iload hx hb dX10_whole_20 (lv_at hl 5 rfl) ?_
      obtain ⟨v9, h8, eh8, hf⟩ := zbp_s hf
      refine zr_callS (As := [.int x5]) kc_X10_209 hB hG (c_X10_isLimit eh8) rfl hl.1 rfl ⟨by decide, by decide⟩ (Nat.le_of_ble_eq_true rfl) ⟨by decide, by decide⟩ dX10_whole_22 (fun H locs hG => ?_)
      refine lv_if_ne (tgt := 31) hx hb dX10_whole_25 (by decide) (fun hc18 => ?_) (fun hc18 => ?_)
      · rw [if_neg hc18] at hf
        refine lv_aload_n hx hb dX10_whole_31 rfl (lv_at hl 0 rfl) ?_
        obtain ⟨a10, ea10, hf⟩ := zb hf
        refine zr_getR hB hG zF_10 (by decide) kf_X10_59 ea10 dX10_whole_32 ?_
        refine lv_aload_n hx hb dX10_whole_35 rfl (lv_at hl 0 rfl) ?_
        obtain ⟨a11, ea11, hf⟩ := zb hf
        refine zr_getR hB hG zF_10 (by decide) kf_X10_33 ea11 dX10_whole_36 ?_
        refine lv_iload_n hx hb dX10_whole_39 rfl (lv_at hl 1 rfl) ?_
        obtain ⟨a12, ea12, hf⟩ := zb hf
        refine zr_aald ⟨_, rfl⟩ hB hG ea12 dX10_whole_40 ?_
        refine lv_aload_n hx hb dX10_whole_41 rfl (lv_at hl 0 rfl) ?_
        obtain ⟨a13, ea13, hf⟩ := zb hf
        refine zr_getR hB hG zF_10 (by decide) kf_X10_18 ea13 dX10_whole_42 ?_
        refine lv_iload_n hx hb dX10_whole_45 rfl (lv_at hl 2 rfl) ?_
        refine lv_iload_n hx hb dX10_whole_46 rfl (lv_at hl 3 rfl) ?_
        refine lv_iload hx hb dX10_whole_47 (lv_at hl 4 rfl) ?_
        refine lv_iload hx hb dX10_whole_49 (lv_at hl 5 rfl) ?_
        obtain ⟨o14, eo14, hf⟩ := zb hf
        obtain ⟨v16, h15, eh15, hf⟩ := zbp_s hf
        refine zr_callV (As := [.ref a12, .ref a13, .int x2, .int x3, .int x4, .int x5]) kc_X10_212 hB hG (c_X5_distance eh15) eo14 rfl hl.1 rfl ⟨by decide, by decide⟩ (Nat.le_of_ble_eq_true rfl) ⟨by decide, by decide⟩ dX10_whole_51 (fun H locs hG => ?_)
        refine lv_istore (lv' := [(6, .int v16), (0, .ref x0), (1, .int x1), (2, .int x2), (3, .int x3), (4, .int x4), (5, .int x5)]) hx hb dX10_whole_54 hl (by decide) rfl (fun ls hl => ?_)
        refine lv_iload hx hb dX10_whole_56 (lv_at hl 0 rfl) ?_
        refine lv_iload hx hb dX10_whole_58 (lv_at hl 6 rfl) ?_
        refine lv_icmp_le (tgt := 68) hx hb dX10_whole_60 (by decide) (fun hc17 => ?_) (fun hc17 => ?_)
        · rw [if_pos hc17] at hf
          refine lv_iload hx hb dX10_whole_68 (lv_at hl 0 rfl) ?_
          exact w_X10_whole_70 hB _ _ _ h15 (v16) hG (lv_sub hl [] rfl) hf
        · rw [if_neg hc17] at hf
          refine lv_bipush (v := -4) hx hb dX10_whole_63 (by decide) ?_
          refine lv_goto (tgt := 70) hx hb dX10_whole_65 (by decide) ?_
          exact w_X10_whole_70 hB _ _ _ h15 ((-4 : Int32)) hG (lv_sub hl [] rfl) hf
      · rw [if_pos hc18] at hf
        exact w_X10_whole_28 hB _ _ _ h8  hG (lv_sub hl [] rfl) hf
end G_X10_whole
theorem c_X10_whole {l : Launch} {D : va_G} {K : Nat → ClassId} {b0 N : Nat} {h : zh_H} {x0 : Nat} {x1 : Int32} {x2 : Int32} {x3 : Int32} {x4 : Int32} {x5 : Int32} {r : Int32} {h2 : zh_H} (hf : b_X10_whole_0 h x0 x1 x2 x3 x4 x5 = some (r, h2)) : zc l yX10_whole cX10_whole 7 (some .int) 6 0 0 D K b0 N h [.ref x0, .int x1, .int x2, .int x3, .int x4, .int x5] (zq (some (.int r)) N h2) := by
  refine zc.of [(0, .ref x0), (1, .int x1), (2, .int x2), (3, .int x3), (4, .int x4), (5, .int x5)] (by decide) rfl (Nat.le_of_ble_eq_true rfl) ?_
  intro p e s m args below meth c hB hnm hG ls hl
  exact w_X10_whole_0 (res := (r, h2)) hB _ _ ls h x0 x1 x2 x3 x4 x5 hG (lv_sub hl [0, 1, 2, 3, 4, 5] rfl) hf

section G_X11_isPart
variable {p : Program} {l : Launch} {e : Env} {s : State} {m : MethodId} {args : Array Value} {below : List Frame} {meth : Method} {c : Code} {D : va_G} {K : Nat → ClassId} {b0 N : Nat}
set_option maxRecDepth 100000 in
set_option maxHeartbeats 4000000 in
theorem w_X11_isPart_22 {res : (Int32 × zh_H)} (hB : zc_B p s m args meth c cX11_isPart 3 RX11 (some .boolean) D K) : ∀ (H : Heap) (locs : List Loc) (ls : Array Slot) (h : zh_H) (y0 : Int32), zh_G D K b0 N h s.heap H locs → lv_has ls 3 [] → b_X11_isPart_22 h y0 = some res → W p l e (zc_rm 0 0 0) s m args below meth c H locs 0 0 (MQ below (zc_Q D K b0 (zq (some (.int res.1)) N res.2)) args s 0 0 (fun q => b0 ≤ q)) (F0 m 22 ls [.int y0]) := by
  have hx := hB.1
  have hb := hB.2.1
  intro H locs ls h y0 hG hl hf
  unfold b_X11_isPart_22 at hf
  obtain ⟨hz, hf⟩ := zif_s hf
  obtain rfl := Option.some.inj hf
  exact zr_zret hB hG hz ⟨rfl, rfl, rfl⟩ dX11_isPart_22

set_option maxRecDepth 100000 in
set_option maxHeartbeats 4000000 in
theorem w_X11_isPart_21 {res : (Int32 × zh_H)} (hB : zc_B p s m args meth c cX11_isPart 3 RX11 (some .boolean) D K) : ∀ (H : Heap) (locs : List Loc) (ls : Array Slot) (h : zh_H), zh_G D K b0 N h s.heap H locs → lv_has ls 3 [] → b_X11_isPart_21 h  = some res → W p l e (zc_rm 0 0 0) s m args below meth c H locs 0 0 (MQ below (zc_Q D K b0 (zq (some (.int res.1)) N res.2)) args s 0 0 (fun q => b0 ≤ q)) (F0 m 21 ls []) := by
  have hx := hB.1
  have hb := hB.2.1
  intro H locs ls h  hG hl hf
  unfold b_X11_isPart_21 at hf
  refine lv_iconst (v := 0) hx hb dX11_isPart_21 (by decide) ?_
  exact w_X11_isPart_22 hB _ _ _ h ((0 : Int32)) hG (lv_sub hl [] rfl) hf

set_option maxRecDepth 100000 in
set_option maxHeartbeats 4000000 in
theorem w_X11_isPart_0 {res : (Int32 × zh_H)} (hB : zc_B p s m args meth c cX11_isPart 3 RX11 (some .boolean) D K) : ∀ (H : Heap) (locs : List Loc) (ls : Array Slot) (h : zh_H) (x0 : Nat) (x1 : Int32) (x2 : Int32), zh_G D K b0 N h s.heap H locs → lv_has ls 3 [(0, .ref x0), (1, .int x1), (2, .int x2)] → b_X11_isPart_0 h x0 x1 x2 = some res → W p l e (zc_rm 0 0 0) s m args below meth c H locs 0 0 (MQ below (zc_Q D K b0 (zq (some (.int res.1)) N res.2)) args s 0 0 (fun q => b0 ≤ q)) (F0 m 0 ls []) := by
  have hx := hB.1
  have hb := hB.2.1
  intro H locs ls h x0 x1 x2 hG hl hf
  unfold b_X11_isPart_0 at hf
  refine lv_iload_n hx hb dX11_isPart_0 rfl (lv_at hl 1 rfl) ?_
  refine lv_if_lt (tgt := 21) hx hb dX11_isPart_1 (by decide) (fun hc4 => ?_) (fun hc4 => ?_)
  · rw [if_pos hc4] at hf
    exact w_X11_isPart_21 hB _ _ _ h  hG (lv_sub hl [] rfl) hf
  · rw [if_neg hc4] at hf
    refine lv_iload_n hx hb dX11_isPart_4 rfl (lv_at hl 1 rfl) ?_
    refine lv_iload_n hx hb dX11_isPart_5 rfl (lv_at hl 2 rfl) ?_
    refine lv_icmp_gt (tgt := 21) hx hb dX11_isPart_6 (by decide) (fun hc3 => ?_) (fun hc3 => ?_)
    · rw [if_pos hc3] at hf
      exact w_X11_isPart_21 hB _ _ _ h  hG (lv_sub hl [] rfl) hf
    · rw [if_neg hc3] at hf
      refine lv_iload_n hx hb dX11_isPart_9 rfl (lv_at hl 2 rfl) ?_
      refine lv_aload_n hx hb dX11_isPart_10 rfl (lv_at hl 0 rfl) ?_
      obtain ⟨v1, ev1, hf⟩ := zb hf
      refine zr_getI hB hG zF_11 (by decide) kf_X11_162 ev1 dX11_isPart_11 ?_
      refine lv_icmp_gt (tgt := 21) hx hb dX11_isPart_14 (by decide) (fun hc2 => ?_) (fun hc2 => ?_)
      · rw [if_pos hc2] at hf
        exact w_X11_isPart_21 hB _ _ _ h  hG (lv_sub hl [] rfl) hf
      · rw [if_neg hc2] at hf
        refine lv_iconst (v := 1) hx hb dX11_isPart_17 (by decide) ?_
        refine lv_goto (tgt := 22) hx hb dX11_isPart_18 (by decide) ?_
        exact w_X11_isPart_22 hB _ _ _ h ((1 : Int32)) hG (lv_sub hl [] rfl) hf
end G_X11_isPart
theorem c_X11_isPart {l : Launch} {D : va_G} {K : Nat → ClassId} {b0 N : Nat} {h : zh_H} {x0 : Nat} {x1 : Int32} {x2 : Int32} {r : Int32} {h2 : zh_H} (hf : b_X11_isPart_0 h x0 x1 x2 = some (r, h2)) : zc l yX11_isPart cX11_isPart 3 (some .boolean) 0 0 0 D K b0 N h [.ref x0, .int x1, .int x2] (zq (some (.int r)) N h2) := by
  refine zc.of [(0, .ref x0), (1, .int x1), (2, .int x2)] (by decide) rfl (Nat.le_of_ble_eq_true rfl) ?_
  intro p e s m args below meth c hB hnm hG ls hl
  exact w_X11_isPart_0 (res := (r, h2)) hB _ _ ls h x0 x1 x2 hG (lv_sub hl [0, 1, 2] rfl) hf

section G_X11_in
variable {p : Program} {l : Launch} {e : Env} {s : State} {m : MethodId} {args : Array Value} {below : List Frame} {meth : Method} {c : Code} {D : va_G} {K : Nat → ClassId} {b0 N : Nat}
set_option maxRecDepth 100000 in
set_option maxHeartbeats 4000000 in
theorem w_X11_in_15 {res : (Int32 × zh_H)} (hB : zc_B p s m args meth c cX11_in 3 RX11 (some .boolean) D K) : ∀ (H : Heap) (locs : List Loc) (ls : Array Slot) (h : zh_H) (y0 : Int32), zh_G D K b0 N h s.heap H locs → lv_has ls 3 [] → b_X11_in_15 h y0 = some res → W p l e (zc_rm 0 0 0) s m args below meth c H locs 0 0 (MQ below (zc_Q D K b0 (zq (some (.int res.1)) N res.2)) args s 0 0 (fun q => b0 ≤ q)) (F0 m 15 ls [.int y0]) := by
  have hx := hB.1
  have hb := hB.2.1
  intro H locs ls h y0 hG hl hf
  unfold b_X11_in_15 at hf
  obtain ⟨hz, hf⟩ := zif_s hf
  obtain rfl := Option.some.inj hf
  exact zr_zret hB hG hz ⟨rfl, rfl, rfl⟩ dX11_in_15

set_option maxRecDepth 100000 in
set_option maxHeartbeats 4000000 in
theorem w_X11_in_14 {res : (Int32 × zh_H)} (hB : zc_B p s m args meth c cX11_in 3 RX11 (some .boolean) D K) : ∀ (H : Heap) (locs : List Loc) (ls : Array Slot) (h : zh_H), zh_G D K b0 N h s.heap H locs → lv_has ls 3 [] → b_X11_in_14 h  = some res → W p l e (zc_rm 0 0 0) s m args below meth c H locs 0 0 (MQ below (zc_Q D K b0 (zq (some (.int res.1)) N res.2)) args s 0 0 (fun q => b0 ≤ q)) (F0 m 14 ls []) := by
  have hx := hB.1
  have hb := hB.2.1
  intro H locs ls h  hG hl hf
  unfold b_X11_in_14 at hf
  refine lv_iconst (v := 0) hx hb dX11_in_14 (by decide) ?_
  exact w_X11_in_15 hB _ _ _ h ((0 : Int32)) hG (lv_sub hl [] rfl) hf

set_option maxRecDepth 100000 in
set_option maxHeartbeats 4000000 in
theorem w_X11_in_0 {res : (Int32 × zh_H)} (hB : zc_B p s m args meth c cX11_in 3 RX11 (some .boolean) D K) : ∀ (H : Heap) (locs : List Loc) (ls : Array Slot) (h : zh_H) (x0 : Int32) (x1 : Int32) (x2 : Int32), zh_G D K b0 N h s.heap H locs → lv_has ls 3 [(0, .int x0), (1, .int x1), (2, .int x2)] → b_X11_in_0 h x0 x1 x2 = some res → W p l e (zc_rm 0 0 0) s m args below meth c H locs 0 0 (MQ below (zc_Q D K b0 (zq (some (.int res.1)) N res.2)) args s 0 0 (fun q => b0 ≤ q)) (F0 m 0 ls []) := by
  have hx := hB.1
  have hb := hB.2.1
  intro H locs ls h x0 x1 x2 hG hl hf
  unfold b_X11_in_0 at hf
  refine lv_iload_n hx hb dX11_in_0 rfl (lv_at hl 0 rfl) ?_
  refine lv_iload_n hx hb dX11_in_1 rfl (lv_at hl 1 rfl) ?_
  refine lv_icmp_lt (tgt := 14) hx hb dX11_in_2 (by decide) (fun hc2 => ?_) (fun hc2 => ?_)
  · rw [if_pos hc2] at hf
    exact w_X11_in_14 hB _ _ _ h  hG (lv_sub hl [] rfl) hf
  · rw [if_neg hc2] at hf
    refine lv_iload_n hx hb dX11_in_5 rfl (lv_at hl 0 rfl) ?_
    refine lv_iload_n hx hb dX11_in_6 rfl (lv_at hl 2 rfl) ?_
    refine lv_icmp_gt (tgt := 14) hx hb dX11_in_7 (by decide) (fun hc1 => ?_) (fun hc1 => ?_)
    · rw [if_pos hc1] at hf
      exact w_X11_in_14 hB _ _ _ h  hG (lv_sub hl [] rfl) hf
    · rw [if_neg hc1] at hf
      refine lv_iconst (v := 1) hx hb dX11_in_10 (by decide) ?_
      refine lv_goto (tgt := 15) hx hb dX11_in_11 (by decide) ?_
      exact w_X11_in_15 hB _ _ _ h ((1 : Int32)) hG (lv_sub hl [] rfl) hf
end G_X11_in
theorem c_X11_in {l : Launch} {D : va_G} {K : Nat → ClassId} {b0 N : Nat} {h : zh_H} {x0 : Int32} {x1 : Int32} {x2 : Int32} {r : Int32} {h2 : zh_H} (hf : b_X11_in_0 h x0 x1 x2 = some (r, h2)) : zc l yX11_in cX11_in 3 (some .boolean) 0 0 0 D K b0 N h [.int x0, .int x1, .int x2] (zq (some (.int r)) N h2) := by
  refine zc.of [(0, .int x0), (1, .int x1), (2, .int x2)] (by decide) rfl (Nat.le_of_ble_eq_true rfl) ?_
  intro p e s m args below meth c hB hnm hG ls hl
  exact w_X11_in_0 (res := (r, h2)) hB _ _ ls h x0 x1 x2 hG (lv_sub hl [0, 1, 2] rfl) hf

section G_X11_loadBytes
variable {p : Program} {l : Launch} {e : Env} {s : State} {m : MethodId} {args : Array Value} {below : List Frame} {meth : Method} {c : Code} {D : va_G} {K : Nat → ClassId} {b0 N : Nat}
set_option maxRecDepth 100000 in
set_option maxHeartbeats 4000000 in
theorem w_X11_loadBytes_9 {res : zh_H} (hB : zc_B p s m args meth c cX11_loadBytes 4 RX11 none D K) : ∀ n : Nat, ∀ (H : Heap) (locs : List Loc) (ls : Array Slot) (h : zh_H) (x0 : Nat) (x1 : Int32) (x3 : Int32), zh_G D K b0 N h s.heap H locs → lv_has ls 4 [(0, .ref x0), (1, .int x1), (3, .int x3)] → b_X11_loadBytes_9 n h x0 x1 x3 = some res → W p l e (zc_rm 0 0 0) s m args below meth c H locs 0 0 (MQ below (zc_Q D K b0 (zq none N res)) args s 0 0 (fun q => b0 ≤ q)) (F0 m 9 ls []) := by
  have hx := hB.1
  have hb := hB.2.1
  intro n
  induction n with
  | zero =>
    intro H locs ls h x0 x1 x3 hG hl hf
    cases hf
  | succ n ih =>
    intro H locs ls h x0 x1 x3 hG hl hf
    unfold b_X11_loadBytes_9 at hf
    refine lv_iload_n hx hb dX11_loadBytes_9 rfl (lv_at hl 2 rfl) ?_
    refine lv_aload_n hx hb dX11_loadBytes_10 rfl (lv_at hl 0 rfl) ?_
    obtain ⟨v1, ev1, hf⟩ := zb hf
    refine zr_getI hB hG zF_11 (by decide) kf_X11_175 ev1 dX11_loadBytes_11 ?_
    refine lv_icmp_ge (tgt := 37) hx hb dX11_loadBytes_14 (by decide) (fun hc6 => ?_) (fun hc6 => ?_)
    · rw [if_pos hc6] at hf
      obtain rfl := Option.some.inj hf
      exact zr_vret hB hG ⟨rfl, rfl, rfl⟩ dX11_loadBytes_37
    · rw [if_neg hc6] at hf
      refine lv_aload_n hx hb dX11_loadBytes_17 rfl (lv_at hl 0 rfl) ?_
      obtain ⟨a2, ea2, hf⟩ := zb hf
      refine zr_getR hB hG zF_11 (by decide) kf_X11_48 ea2 dX11_loadBytes_18 ?_
      refine lv_iload_n hx hb dX11_loadBytes_21 rfl (lv_at hl 2 rfl) ?_
      refine lv_aload_n hx hb dX11_loadBytes_22 rfl (lv_at hl 0 rfl) ?_
      obtain ⟨a3, ea3, hf⟩ := zb hf
      refine zr_getR hB hG zF_11 (by decide) kf_X11_13 ea3 dX11_loadBytes_23 ?_
      refine lv_iload_n hx hb dX11_loadBytes_26 rfl (lv_at hl 1 rfl) ?_
      refine lv_iload_n hx hb dX11_loadBytes_27 rfl (lv_at hl 2 rfl) ?_
      refine lv_iadd hx hb dX11_loadBytes_28 ?_
      obtain ⟨v4, ev4, hf⟩ := zb hf
      refine zr_iald hB hG ev4 dX11_loadBytes_29 ?_
      obtain ⟨h5, eh5, hf⟩ := zb hf
      refine zr_iast hB hG eh5 dX11_loadBytes_30 (fun H locs hG => ?_)
      refine lv_iinc (v := (x3 + (1 : Int32))) (lv' := [(3, .int (x3 + (1 : Int32))), (0, .ref x0), (1, .int x1)]) hx hb dX11_loadBytes_31 hl (k := 2) rfl rfl (by decide) rfl (fun ls hl => ?_)
      refine lv_goto (tgt := 9) hx hb dX11_loadBytes_34 (by decide) ?_
      exact ih _ _ _ h5 (x0) (x1) ((x3 + (1 : Int32))) hG (lv_sub hl [1, 2, 0] rfl) hf

set_option maxRecDepth 100000 in
set_option maxHeartbeats 4000000 in
theorem w_X11_loadBytes_0 {res : zh_H} (hB : zc_B p s m args meth c cX11_loadBytes 4 RX11 none D K) : ∀ (H : Heap) (locs : List Loc) (ls : Array Slot) (h : zh_H) (x0 : Nat) (x1 : Int32) (x2 : Int32), zh_G D K b0 N h s.heap H locs → lv_has ls 4 [(0, .ref x0), (1, .int x1), (2, .int x2)] → b_X11_loadBytes_0 h x0 x1 x2 = some res → W p l e (zc_rm 0 0 0) s m args below meth c H locs 0 0 (MQ below (zc_Q D K b0 (zq none N res)) args s 0 0 (fun q => b0 ≤ q)) (F0 m 0 ls []) := by
  have hx := hB.1
  have hb := hB.2.1
  intro H locs ls h x0 x1 x2 hG hl hf
  unfold b_X11_loadBytes_0 at hf
  refine lv_aload_n hx hb dX11_loadBytes_0 rfl (lv_at hl 0 rfl) ?_
  refine lv_iload_n hx hb dX11_loadBytes_1 rfl (lv_at hl 2 rfl) ?_
  refine lv_iload_n hx hb dX11_loadBytes_2 rfl (lv_at hl 1 rfl) ?_
  refine lv_isub hx hb dX11_loadBytes_3 ?_
  obtain ⟨h1, eh1, hf⟩ := zb hf
  refine zr_put hB hG zF_11 (by decide) kf_X11_175 rfl rfl rfl eh1 dX11_loadBytes_4 (fun H locs hG => ?_)
  refine lv_iconst (v := 0) hx hb dX11_loadBytes_7 (by decide) ?_
  refine lv_istore_n (lv' := [(3, .int (0 : Int32)), (0, .ref x0), (1, .int x1), (2, .int x2)]) hx hb dX11_loadBytes_8 rfl hl (by decide) rfl (fun ls hl => ?_)
  exact w_X11_loadBytes_9 hB zFuel _ _ _ h1 (x0) (x1) ((0 : Int32)) hG (lv_sub hl [1, 2, 0] rfl) hf
end G_X11_loadBytes
theorem c_X11_loadBytes {l : Launch} {D : va_G} {K : Nat → ClassId} {b0 N : Nat} {h : zh_H} {x0 : Nat} {x1 : Int32} {x2 : Int32} {h2 : zh_H} (hf : b_X11_loadBytes_0 h x0 x1 x2 = some h2) : zc l yX11_loadBytes cX11_loadBytes 4 none 0 0 0 D K b0 N h [.ref x0, .int x1, .int x2] (zq none N h2) := by
  refine zc.of [(0, .ref x0), (1, .int x1), (2, .int x2)] (by decide) rfl (Nat.le_of_ble_eq_true rfl) ?_
  intro p e s m args below meth c hB hnm hG ls hl
  exact w_X11_loadBytes_0 (res := h2) hB _ _ ls h x0 x1 x2 hG (lv_sub hl [0, 1, 2] rfl) hf

section G_X11_firstColumn
variable {p : Program} {l : Launch} {e : Env} {s : State} {m : MethodId} {args : Array Value} {below : List Frame} {meth : Method} {c : Code} {D : va_G} {K : Nat → ClassId} {b0 N : Nat}
set_option maxRecDepth 100000 in
set_option maxHeartbeats 4000000 in
theorem w_X11_firstColumn_2 {res : zh_H} (hB : zc_B p s m args meth c cX11_firstColumn 2 RX11 none D K) : ∀ n : Nat, ∀ (H : Heap) (locs : List Loc) (ls : Array Slot) (h : zh_H) (x0 : Nat) (x1 : Int32), zh_G D K b0 N h s.heap H locs → lv_has ls 2 [(0, .ref x0), (1, .int x1)] → b_X11_firstColumn_2 n h x0 x1 = some res → W p l e (zc_rm 0 0 0) s m args below meth c H locs 0 0 (MQ below (zc_Q D K b0 (zq none N res)) args s 0 0 (fun q => b0 ≤ q)) (F0 m 2 ls []) := by
  have hx := hB.1
  have hb := hB.2.1
  intro n
  induction n with
  | zero =>
    intro H locs ls h x0 x1 hG hl hf
    cases hf
  | succ n ih =>
    intro H locs ls h x0 x1 hG hl hf
    unfold b_X11_firstColumn_2 at hf
    refine lv_iload_n hx hb dX11_firstColumn_2 rfl (lv_at hl 1 rfl) ?_
    refine lv_aload_n hx hb dX11_firstColumn_3 rfl (lv_at hl 0 rfl) ?_
    obtain ⟨v1, ev1, hf⟩ := zb hf
    refine zr_getI hB hG zF_11 (by decide) kf_X11_172 ev1 dX11_firstColumn_4 ?_
    refine lv_icmp_gt (tgt := 30) hx hb dX11_firstColumn_7 (by decide) (fun hc6 => ?_) (fun hc6 => ?_)
    · rw [if_pos hc6] at hf
      obtain rfl := Option.some.inj hf
      exact zr_vret hB hG ⟨rfl, rfl, rfl⟩ dX11_firstColumn_30
    · rw [if_neg hc6] at hf
      refine lv_aload_n hx hb dX11_firstColumn_10 rfl (lv_at hl 0 rfl) ?_
      obtain ⟨a2, ea2, hf⟩ := zb hf
      refine zr_getR hB hG zF_11 (by decide) kf_X11_51 ea2 dX11_firstColumn_11 ?_
      refine lv_iload_n hx hb dX11_firstColumn_14 rfl (lv_at hl 1 rfl) ?_
      refine lv_iload_n hx hb dX11_firstColumn_15 rfl (lv_at hl 1 rfl) ?_
      obtain ⟨h3, eh3, hf⟩ := zb hf
      refine zr_iast hB hG eh3 dX11_firstColumn_16 (fun H locs hG => ?_)
      refine lv_aload_n hx hb dX11_firstColumn_17 rfl (lv_at hl 0 rfl) ?_
      obtain ⟨a4, ea4, hf⟩ := zb hf
      refine zr_getR hB hG zF_11 (by decide) kf_X11_60 ea4 dX11_firstColumn_18 ?_
      refine lv_iload_n hx hb dX11_firstColumn_21 rfl (lv_at hl 1 rfl) ?_
      refine lv_iconst (v := 0) hx hb dX11_firstColumn_22 (by decide) ?_
      obtain ⟨h5, eh5, hf⟩ := zb hf
      refine zr_iast hB hG eh5 dX11_firstColumn_23 (fun H locs hG => ?_)
      refine lv_iinc (v := (x1 + (1 : Int32))) (lv' := [(1, .int (x1 + (1 : Int32))), (0, .ref x0)]) hx hb dX11_firstColumn_24 hl (k := 1) rfl rfl (by decide) rfl (fun ls hl => ?_)
      refine lv_goto (tgt := 2) hx hb dX11_firstColumn_27 (by decide) ?_
      exact ih _ _ _ h5 (x0) ((x1 + (1 : Int32))) hG (lv_sub hl [1, 0] rfl) hf

set_option maxRecDepth 100000 in
set_option maxHeartbeats 4000000 in
theorem w_X11_firstColumn_0 {res : zh_H} (hB : zc_B p s m args meth c cX11_firstColumn 2 RX11 none D K) : ∀ (H : Heap) (locs : List Loc) (ls : Array Slot) (h : zh_H) (x0 : Nat), zh_G D K b0 N h s.heap H locs → lv_has ls 2 [(0, .ref x0)] → b_X11_firstColumn_0 h x0 = some res → W p l e (zc_rm 0 0 0) s m args below meth c H locs 0 0 (MQ below (zc_Q D K b0 (zq none N res)) args s 0 0 (fun q => b0 ≤ q)) (F0 m 0 ls []) := by
  have hx := hB.1
  have hb := hB.2.1
  intro H locs ls h x0 hG hl hf
  unfold b_X11_firstColumn_0 at hf
  refine lv_iconst (v := 0) hx hb dX11_firstColumn_0 (by decide) ?_
  refine lv_istore_n (lv' := [(1, .int (0 : Int32)), (0, .ref x0)]) hx hb dX11_firstColumn_1 rfl hl (by decide) rfl (fun ls hl => ?_)
  exact w_X11_firstColumn_2 hB zFuel _ _ _ h (x0) ((0 : Int32)) hG (lv_sub hl [1, 0] rfl) hf
end G_X11_firstColumn
theorem c_X11_firstColumn {l : Launch} {D : va_G} {K : Nat → ClassId} {b0 N : Nat} {h : zh_H} {x0 : Nat} {h2 : zh_H} (hf : b_X11_firstColumn_0 h x0 = some h2) : zc l yX11_firstColumn cX11_firstColumn 2 none 0 0 0 D K b0 N h [.ref x0] (zq none N h2) := by
  refine zc.of [(0, .ref x0)] (by decide) rfl (Nat.le_of_ble_eq_true rfl) ?_
  intro p e s m args below meth c hB hnm hG ls hl
  exact w_X11_firstColumn_0 (res := h2) hB _ _ ls h x0 hG (lv_sub hl [0] rfl) hf

section G_X11_fits
variable {p : Program} {l : Launch} {e : Env} {s : State} {m : MethodId} {args : Array Value} {below : List Frame} {meth : Method} {c : Code} {D : va_G} {K : Nat → ClassId} {b0 N : Nat}
set_option maxRecDepth 100000 in
set_option maxHeartbeats 4000000 in
theorem w_X11_fits_40 {res : (Int32 × zh_H)} (hB : zc_B p s m args meth c cX11_fits 3 RX11 (some .boolean) D K) : ∀ (H : Heap) (locs : List Loc) (ls : Array Slot) (h : zh_H) (y0 : Int32), zh_G D K b0 N h s.heap H locs → lv_has ls 3 [] → b_X11_fits_40 h y0 = some res → W p l e (zc_rm 0 0 0) s m args below meth c H locs 0 0 (MQ below (zc_Q D K b0 (zq (some (.int res.1)) N res.2)) args s 0 0 (fun q => b0 ≤ q)) (F0 m 40 ls [.int y0]) := by
  have hx := hB.1
  have hb := hB.2.1
  intro H locs ls h y0 hG hl hf
  unfold b_X11_fits_40 at hf
  obtain ⟨hz, hf⟩ := zif_s hf
  obtain rfl := Option.some.inj hf
  exact zr_zret hB hG hz ⟨rfl, rfl, rfl⟩ dX11_fits_40

set_option maxRecDepth 100000 in
set_option maxHeartbeats 4000000 in
theorem w_X11_fits_28 {res : (Int32 × zh_H)} (hB : zc_B p s m args meth c cX11_fits 3 RX11 (some .boolean) D K) : ∀ (H : Heap) (locs : List Loc) (ls : Array Slot) (h : zh_H) (y0 : Int64), zh_G D K b0 N h s.heap H locs → lv_has ls 3 [] → b_X11_fits_28 h y0 = some res → W p l e (zc_rm 0 0 0) s m args below meth c H locs 0 0 (MQ below (zc_Q D K b0 (zq (some (.int res.1)) N res.2)) args s 0 0 (fun q => b0 ≤ q)) (F0 m 28 ls [.long y0]) := by
  have hx := hB.1
  have hb := hB.2.1
  intro H locs ls h y0 hG hl hf
  unfold b_X11_fits_28 at hf
  refine lv_lconst (v := 1) hx hb dX11_fits_28 (by decide) ?_
  refine lv_land hx hb dX11_fits_29 ?_
  refine lv_lconst (v := 1) hx hb dX11_fits_30 (by decide) ?_
  refine W.lcmp hx hb dX11_fits_31 ?_
  refine lv_if_ne (tgt := 39) hx hb dX11_fits_32 (by decide) (fun hc1 => ?_) (fun hc1 => ?_)
  · rw [if_neg hc1] at hf
    refine lv_iconst (v := 0) hx hb dX11_fits_39 (by decide) ?_
    exact w_X11_fits_40 hB _ _ _ h ((0 : Int32)) hG (lv_sub hl [] rfl) hf
  · rw [if_pos hc1] at hf
    refine lv_iconst (v := 1) hx hb dX11_fits_35 (by decide) ?_
    refine lv_goto (tgt := 40) hx hb dX11_fits_36 (by decide) ?_
    exact w_X11_fits_40 hB _ _ _ h ((1 : Int32)) hG (lv_sub hl [] rfl) hf

set_option maxRecDepth 100000 in
set_option maxHeartbeats 4000000 in
theorem w_X11_fits_0 {res : (Int32 × zh_H)} (hB : zc_B p s m args meth c cX11_fits 3 RX11 (some .boolean) D K) : ∀ (H : Heap) (locs : List Loc) (ls : Array Slot) (h : zh_H) (x0 : Nat) (x1 : Int32) (x2 : Int32), zh_G D K b0 N h s.heap H locs → lv_has ls 3 [(0, .ref x0), (1, .int x1), (2, .int x2)] → b_X11_fits_0 h x0 x1 x2 = some res → W p l e (zc_rm 0 0 0) s m args below meth c H locs 0 0 (MQ below (zc_Q D K b0 (zq (some (.int res.1)) N res.2)) args s 0 0 (fun q => b0 ≤ q)) (F0 m 0 ls []) := by
  have hx := hB.1
  have hb := hB.2.1
  intro H locs ls h x0 x1 x2 hG hl hf
  unfold b_X11_fits_0 at hf
  refine lv_iload_n hx hb dX11_fits_0 rfl (lv_at hl 2 rfl) ?_
  refine lv_bipush (v := 64) hx hb dX11_fits_1 (by decide) ?_
  refine lv_icmp_ge (tgt := 17) hx hb dX11_fits_3 (by decide) (fun hc5 => ?_) (fun hc5 => ?_)
  · rw [if_pos hc5] at hf
    refine lv_aload_n hx hb dX11_fits_17 rfl (lv_at hl 0 rfl) ?_
    obtain ⟨a1, ea1, hf⟩ := zb hf
    refine zr_getR hB hG zF_11 (by decide) kf_X11_45 ea1 dX11_fits_18 ?_
    refine lv_iload_n hx hb dX11_fits_21 rfl (lv_at hl 1 rfl) ?_
    obtain ⟨u2, eu2, hf⟩ := zb hf
    refine zr_lald hB hG eu2 dX11_fits_22 ?_
    refine lv_iload_n hx hb dX11_fits_23 rfl (lv_at hl 2 rfl) ?_
    refine lv_bipush (v := 64) hx hb dX11_fits_24 (by decide) ?_
    refine lv_isub hx hb dX11_fits_26 ?_
    refine lv_lshr hx hb dX11_fits_27 rfl ?_
    exact w_X11_fits_28 hB _ _ _ h (((u2 >>> (Int32.toInt64 (x2 - (64 : Int32)) &&& 63)))) hG (lv_sub hl [] rfl) hf
  · rw [if_neg hc5] at hf
    refine lv_aload_n hx hb dX11_fits_6 rfl (lv_at hl 0 rfl) ?_
    obtain ⟨a3, ea3, hf⟩ := zb hf
    refine zr_getR hB hG zF_11 (by decide) kf_X11_42 ea3 dX11_fits_7 ?_
    refine lv_iload_n hx hb dX11_fits_10 rfl (lv_at hl 1 rfl) ?_
    obtain ⟨u4, eu4, hf⟩ := zb hf
    refine zr_lald hB hG eu4 dX11_fits_11 ?_
    refine lv_iload_n hx hb dX11_fits_12 rfl (lv_at hl 2 rfl) ?_
    refine lv_lshr hx hb dX11_fits_13 rfl ?_
    refine lv_goto (tgt := 28) hx hb dX11_fits_14 (by decide) ?_
    exact w_X11_fits_28 hB _ _ _ h (((u4 >>> (Int32.toInt64 x2 &&& 63)))) hG (lv_sub hl [] rfl) hf
end G_X11_fits
theorem c_X11_fits {l : Launch} {D : va_G} {K : Nat → ClassId} {b0 N : Nat} {h : zh_H} {x0 : Nat} {x1 : Int32} {x2 : Int32} {r : Int32} {h2 : zh_H} (hf : b_X11_fits_0 h x0 x1 x2 = some (r, h2)) : zc l yX11_fits cX11_fits 3 (some .boolean) 0 0 0 D K b0 N h [.ref x0, .int x1, .int x2] (zq (some (.int r)) N h2) := by
  refine zc.of [(0, .ref x0), (1, .int x1), (2, .int x2)] (by decide) rfl (Nat.le_of_ble_eq_true rfl) ?_
  intro p e s m args below meth c hB hnm hG ls hl
  exact w_X11_fits_0 (res := (r, h2)) hB _ _ ls h x0 x1 x2 hG (lv_sub hl [0, 1, 2] rfl) hf

section G_X11_better
variable {p : Program} {l : Launch} {e : Env} {s : State} {m : MethodId} {args : Array Value} {below : List Frame} {meth : Method} {c : Code} {D : va_G} {K : Nat → ClassId} {b0 N : Nat}
set_option maxRecDepth 100000 in
set_option maxHeartbeats 4000000 in
theorem w_X11_better_44 {res : zh_H} (hB : zc_B p s m args meth c cX11_better 4 RX11 none D K) : ∀ (H : Heap) (locs : List Loc) (ls : Array Slot) (h : zh_H), zh_G D K b0 N h s.heap H locs → lv_has ls 4 [] → b_X11_better_44 h  = some res → W p l e (zc_rm 0 0 0) s m args below meth c H locs 0 0 (MQ below (zc_Q D K b0 (zq none N res)) args s 0 0 (fun q => b0 ≤ q)) (F0 m 44 ls []) := by
  have hx := hB.1
  have hb := hB.2.1
  intro H locs ls h  hG hl hf
  unfold b_X11_better_44 at hf
  obtain rfl := Option.some.inj hf
  exact zr_vret hB hG ⟨rfl, rfl, rfl⟩ dX11_better_44

set_option maxRecDepth 100000 in
set_option maxHeartbeats 4000000 in
theorem w_X11_better_30 {res : zh_H} (hB : zc_B p s m args meth c cX11_better 4 RX11 none D K) : ∀ (H : Heap) (locs : List Loc) (ls : Array Slot) (h : zh_H) (x0 : Nat) (x1 : Int32) (x2 : Int32) (x3 : Int32), zh_G D K b0 N h s.heap H locs → lv_has ls 4 [(0, .ref x0), (1, .int x1), (2, .int x2), (3, .int x3)] → b_X11_better_30 h x0 x1 x2 x3 = some res → W p l e (zc_rm 0 0 0) s m args below meth c H locs 0 0 (MQ below (zc_Q D K b0 (zq none N res)) args s 0 0 (fun q => b0 ≤ q)) (F0 m 30 ls []) := by
  have hx := hB.1
  have hb := hB.2.1
  intro H locs ls h x0 x1 x2 x3 hG hl hf
  unfold b_X11_better_30 at hf
  refine lv_aload_n hx hb dX11_better_30 rfl (lv_at hl 0 rfl) ?_
  obtain ⟨a1, ea1, hf⟩ := zb hf
  refine zr_getR hB hG zF_11 (by decide) kf_X11_51 ea1 dX11_better_31 ?_
  refine lv_iload_n hx hb dX11_better_34 rfl (lv_at hl 1 rfl) ?_
  refine lv_iload_n hx hb dX11_better_35 rfl (lv_at hl 2 rfl) ?_
  obtain ⟨h2, eh2, hf⟩ := zb hf
  refine zr_iast hB hG eh2 dX11_better_36 (fun H locs hG => ?_)
  refine lv_aload_n hx hb dX11_better_37 rfl (lv_at hl 0 rfl) ?_
  obtain ⟨a3, ea3, hf⟩ := zb hf
  refine zr_getR hB hG zF_11 (by decide) kf_X11_60 ea3 dX11_better_38 ?_
  refine lv_iload_n hx hb dX11_better_41 rfl (lv_at hl 1 rfl) ?_
  refine lv_iload_n hx hb dX11_better_42 rfl (lv_at hl 3 rfl) ?_
  obtain ⟨h4, eh4, hf⟩ := zb hf
  refine zr_iast hB hG eh4 dX11_better_43 (fun H locs hG => ?_)
  exact w_X11_better_44 hB _ _ _ h4  hG (lv_sub hl [] rfl) hf

set_option maxRecDepth 100000 in
set_option maxHeartbeats 4000000 in
theorem w_X11_better_0 {res : zh_H} (hB : zc_B p s m args meth c cX11_better 4 RX11 none D K) : ∀ (H : Heap) (locs : List Loc) (ls : Array Slot) (h : zh_H) (x0 : Nat) (x1 : Int32) (x2 : Int32) (x3 : Int32), zh_G D K b0 N h s.heap H locs → lv_has ls 4 [(0, .ref x0), (1, .int x1), (2, .int x2), (3, .int x3)] → b_X11_better_0 h x0 x1 x2 x3 = some res → W p l e (zc_rm 0 0 0) s m args below meth c H locs 0 0 (MQ below (zc_Q D K b0 (zq none N res)) args s 0 0 (fun q => b0 ≤ q)) (F0 m 0 ls []) := by
  have hx := hB.1
  have hb := hB.2.1
  intro H locs ls h x0 x1 x2 x3 hG hl hf
  unfold b_X11_better_0 at hf
  refine lv_iload_n hx hb dX11_better_0 rfl (lv_at hl 2 rfl) ?_
  refine lv_aload_n hx hb dX11_better_1 rfl (lv_at hl 0 rfl) ?_
  obtain ⟨a1, ea1, hf⟩ := zb hf
  refine zr_getR hB hG zF_11 (by decide) kf_X11_51 ea1 dX11_better_2 ?_
  refine lv_iload_n hx hb dX11_better_5 rfl (lv_at hl 1 rfl) ?_
  obtain ⟨v2, ev2, hf⟩ := zb hf
  refine zr_iald hB hG ev2 dX11_better_6 ?_
  refine lv_icmp_lt (tgt := 30) hx hb dX11_better_7 (by decide) (fun hc9 => ?_) (fun hc9 => ?_)
  · rw [if_pos hc9] at hf
    exact w_X11_better_30 hB _ _ _ h (x0) (x1) (x2) (x3) hG (lv_sub hl [0, 1, 2, 3] rfl) hf
  · rw [if_neg hc9] at hf
    refine lv_iload_n hx hb dX11_better_10 rfl (lv_at hl 2 rfl) ?_
    refine lv_aload_n hx hb dX11_better_11 rfl (lv_at hl 0 rfl) ?_
    obtain ⟨a3, ea3, hf⟩ := zb hf
    refine zr_getR hB hG zF_11 (by decide) kf_X11_51 ea3 dX11_better_12 ?_
    refine lv_iload_n hx hb dX11_better_15 rfl (lv_at hl 1 rfl) ?_
    obtain ⟨v4, ev4, hf⟩ := zb hf
    refine zr_iald hB hG ev4 dX11_better_16 ?_
    refine lv_icmp_ne (tgt := 44) hx hb dX11_better_17 (by decide) (fun hc8 => ?_) (fun hc8 => ?_)
    · rw [if_neg hc8] at hf
      exact w_X11_better_44 hB _ _ _ h  hG (lv_sub hl [] rfl) hf
    · rw [if_pos hc8] at hf
      refine lv_iload_n hx hb dX11_better_20 rfl (lv_at hl 3 rfl) ?_
      refine lv_aload_n hx hb dX11_better_21 rfl (lv_at hl 0 rfl) ?_
      obtain ⟨a5, ea5, hf⟩ := zb hf
      refine zr_getR hB hG zF_11 (by decide) kf_X11_60 ea5 dX11_better_22 ?_
      refine lv_iload_n hx hb dX11_better_25 rfl (lv_at hl 1 rfl) ?_
      obtain ⟨v6, ev6, hf⟩ := zb hf
      refine zr_iald hB hG ev6 dX11_better_26 ?_
      refine lv_icmp_le (tgt := 44) hx hb dX11_better_27 (by decide) (fun hc7 => ?_) (fun hc7 => ?_)
      · rw [if_pos hc7] at hf
        exact w_X11_better_44 hB _ _ _ h  hG (lv_sub hl [] rfl) hf
      · rw [if_neg hc7] at hf
        exact w_X11_better_30 hB _ _ _ h (x0) (x1) (x2) (x3) hG (lv_sub hl [0, 1, 2, 3] rfl) hf
end G_X11_better
theorem c_X11_better {l : Launch} {D : va_G} {K : Nat → ClassId} {b0 N : Nat} {h : zh_H} {x0 : Nat} {x1 : Int32} {x2 : Int32} {x3 : Int32} {h2 : zh_H} (hf : b_X11_better_0 h x0 x1 x2 x3 = some h2) : zc l yX11_better cX11_better 4 none 0 0 0 D K b0 N h [.ref x0, .int x1, .int x2, .int x3] (zq none N h2) := by
  refine zc.of [(0, .ref x0), (1, .int x1), (2, .int x2), (3, .int x3)] (by decide) rfl (Nat.le_of_ble_eq_true rfl) ?_
  intro p e s m args below meth c hB hnm hG ls hl
  exact w_X11_better_0 (res := h2) hB _ _ ls h x0 x1 x2 x3 hG (lv_sub hl [0, 1, 2, 3] rfl) hf

section G_X11_column
variable {p : Program} {l : Launch} {e : Env} {s : State} {m : MethodId} {args : Array Value} {below : List Frame} {meth : Method} {c : Code} {D : va_G} {K : Nat → ClassId} {b0 N : Nat}
set_option maxRecDepth 100000 in
set_option maxHeartbeats 4000000 in
theorem w_X11_column_273 {res : zh_H} (hB : zc_B p s m args meth c cX11_column 4 RX11 none D K) {k100 : zh_H → Nat → Int32 → Int32 → Option zh_H} (hk100 : ∀ (H : Heap) (locs : List Loc) (ls : Array Slot) (h : zh_H) (x0 : Nat) (x1 : Int32) (x3 : Int32), zh_G D K b0 N h s.heap H locs → lv_has ls 4 [(0, .ref x0), (1, .int x1), (3, .int x3)] → k100 h x0 x1 x3 = some res → W p l e (zc_rm 1 0 0) s m args below meth c H locs 0 0 (MQ below (zc_Q D K b0 (zq none N res)) args s 0 0 (fun q => b0 ≤ q)) (F0 m 100 ls [])) : ∀ (H : Heap) (locs : List Loc) (ls : Array Slot) (h : zh_H) (x0 : Nat) (x1 : Int32) (x3 : Int32), zh_G D K b0 N h s.heap H locs → lv_has ls 4 [(0, .ref x0), (1, .int x1), (3, .int x3)] → b_X11_column_273 k100 h x0 x1 x3 = some res → W p l e (zc_rm 1 0 0) s m args below meth c H locs 0 0 (MQ below (zc_Q D K b0 (zq none N res)) args s 0 0 (fun q => b0 ≤ q)) (F0 m 273 ls []) := by
  have hx := hB.1
  have hb := hB.2.1
  intro H locs ls h x0 x1 x3 hG hl hf
  unfold b_X11_column_273 at hf
  refine lv_iinc (v := (x3 + (1 : Int32))) (lv' := [(3, .int (x3 + (1 : Int32))), (0, .ref x0), (1, .int x1)]) hx hb dX11_column_273 hl (k := 2) rfl rfl (by decide) rfl (fun ls hl => ?_)
  refine lv_goto (tgt := 100) hx hb dX11_column_276 (by decide) ?_
  exact hk100 _ _ _ h (x0) (x1) ((x3 + (1 : Int32))) hG (lv_sub hl [1, 2, 0] rfl) hf

set_option maxRecDepth 100000 in
set_option maxHeartbeats 4000000 in
theorem w_X11_column_142 {res : zh_H} (hB : zc_B p s m args meth c cX11_column 4 RX11 none D K) {k100 : zh_H → Nat → Int32 → Int32 → Option zh_H} (hk100 : ∀ (H : Heap) (locs : List Loc) (ls : Array Slot) (h : zh_H) (x0 : Nat) (x1 : Int32) (x3 : Int32), zh_G D K b0 N h s.heap H locs → lv_has ls 4 [(0, .ref x0), (1, .int x1), (3, .int x3)] → k100 h x0 x1 x3 = some res → W p l e (zc_rm 1 0 0) s m args below meth c H locs 0 0 (MQ below (zc_Q D K b0 (zq none N res)) args s 0 0 (fun q => b0 ≤ q)) (F0 m 100 ls [])) : ∀ (H : Heap) (locs : List Loc) (ls : Array Slot) (h : zh_H) (x0 : Nat) (x1 : Int32) (x3 : Int32) (y0 : Int32) (y1 : Int32) (y2 : Int32) (y3 : Nat), zh_G D K b0 N h s.heap H locs → lv_has ls 4 [(0, .ref x0), (1, .int x1), (3, .int x3)] → b_X11_column_142 k100 h x0 x1 x3 y0 y1 y2 y3 = some res → W p l e (zc_rm 1 0 0) s m args below meth c H locs 0 0 (MQ below (zc_Q D K b0 (zq none N res)) args s 0 0 (fun q => b0 ≤ q)) (F0 m 142 ls [.int y0, .int y1, .int y2, .ref y3]) := by
  have hx := hB.1
  have hb := hB.2.1
  intro H locs ls h x0 x1 x3 y0 y1 y2 y3 hG hl hf
  unfold b_X11_column_142 at hf
  refine lv_iadd hx hb dX11_column_142 ?_
  obtain ⟨h1, eh1, hf⟩ := zb hf
  refine zr_iast hB hG eh1 dX11_column_143 (fun H locs hG => ?_)
  refine lv_aload_n hx hb dX11_column_144 rfl (lv_at hl 0 rfl) ?_
  obtain ⟨a2, ea2, hf⟩ := zb hf
  refine zr_getR hB hG zF_11 (by decide) kf_X11_60 ea2 dX11_column_145 ?_
  refine lv_iload_n hx hb dX11_column_148 rfl (lv_at hl 2 rfl) ?_
  refine lv_aload_n hx hb dX11_column_149 rfl (lv_at hl 0 rfl) ?_
  obtain ⟨a3, ea3, hf⟩ := zb hf
  refine zr_getR hB hG zF_11 (by decide) kf_X11_63 ea3 dX11_column_150 ?_
  refine lv_iload_n hx hb dX11_column_153 rfl (lv_at hl 2 rfl) ?_
  refine lv_iconst (v := 1) hx hb dX11_column_154 (by decide) ?_
  refine lv_isub hx hb dX11_column_155 ?_
  obtain ⟨v4, ev4, hf⟩ := zb hf
  refine zr_iald hB hG ev4 dX11_column_156 ?_
  obtain ⟨h5, eh5, hf⟩ := zb hf
  refine zr_iast hB hG eh5 dX11_column_157 (fun H locs hG => ?_)
  refine lv_aload_n hx hb dX11_column_158 rfl (lv_at hl 0 rfl) ?_
  refine lv_iload_n hx hb dX11_column_159 rfl (lv_at hl 2 rfl) ?_
  refine lv_aload_n hx hb dX11_column_160 rfl (lv_at hl 0 rfl) ?_
  obtain ⟨a6, ea6, hf⟩ := zb hf
  refine zr_getR hB hG zF_11 (by decide) kf_X11_54 ea6 dX11_column_161 ?_
  refine lv_iload_n hx hb dX11_column_164 rfl (lv_at hl 2 rfl) ?_
  obtain ⟨v7, ev7, hf⟩ := zb hf
  refine zr_iald hB hG ev7 dX11_column_165 ?_
  refine lv_iconst (v := 1) hx hb dX11_column_166 (by decide) ?_
  refine lv_iadd hx hb dX11_column_167 ?_
  refine lv_aload_n hx hb dX11_column_168 rfl (lv_at hl 0 rfl) ?_
  obtain ⟨a8, ea8, hf⟩ := zb hf
  refine zr_getR hB hG zF_11 (by decide) kf_X11_63 ea8 dX11_column_169 ?_
  refine lv_iload_n hx hb dX11_column_172 rfl (lv_at hl 2 rfl) ?_
  obtain ⟨v9, ev9, hf⟩ := zb hf
  refine zr_iald hB hG ev9 dX11_column_173 ?_
  obtain ⟨o10, eo10, hf⟩ := zb hf
  obtain ⟨h11, eh11, hf⟩ := zb hf
  refine zr_callVv (As := [.int x3, .int (v7 + (1 : Int32)), .int v9]) kc_X11_181 hB hG (c_X11_better eh11) eo10 rfl hl.1 rfl ⟨by decide, by decide⟩ (Nat.le_of_ble_eq_true rfl) ⟨by decide, by decide⟩ dX11_column_174 (fun H locs hG => ?_)
  refine lv_aload_n hx hb dX11_column_177 rfl (lv_at hl 0 rfl) ?_
  refine lv_iload_n hx hb dX11_column_178 rfl (lv_at hl 2 rfl) ?_
  refine lv_aload_n hx hb dX11_column_179 rfl (lv_at hl 0 rfl) ?_
  obtain ⟨a12, ea12, hf⟩ := zb hf
  refine zr_getR hB hG zF_11 (by decide) kf_X11_51 ea12 dX11_column_180 ?_
  refine lv_iload_n hx hb dX11_column_183 rfl (lv_at hl 2 rfl) ?_
  refine lv_iconst (v := 1) hx hb dX11_column_184 (by decide) ?_
  refine lv_isub hx hb dX11_column_185 ?_
  obtain ⟨v13, ev13, hf⟩ := zb hf
  refine zr_iald hB hG ev13 dX11_column_186 ?_
  refine lv_iconst (v := 1) hx hb dX11_column_187 (by decide) ?_
  refine lv_iadd hx hb dX11_column_188 ?_
  refine lv_aload_n hx hb dX11_column_189 rfl (lv_at hl 0 rfl) ?_
  obtain ⟨a14, ea14, hf⟩ := zb hf
  refine zr_getR hB hG zF_11 (by decide) kf_X11_60 ea14 dX11_column_190 ?_
  refine lv_iload_n hx hb dX11_column_193 rfl (lv_at hl 2 rfl) ?_
  refine lv_iconst (v := 1) hx hb dX11_column_194 (by decide) ?_
  refine lv_isub hx hb dX11_column_195 ?_
  obtain ⟨v15, ev15, hf⟩ := zb hf
  refine zr_iald hB hG ev15 dX11_column_196 ?_
  obtain ⟨o16, eo16, hf⟩ := zb hf
  obtain ⟨h17, eh17, hf⟩ := zb hf
  refine zr_callVv (As := [.int x3, .int (v13 + (1 : Int32)), .int v15]) kc_X11_181 hB hG (c_X11_better eh17) eo16 rfl hl.1 rfl ⟨by decide, by decide⟩ (Nat.le_of_ble_eq_true rfl) ⟨by decide, by decide⟩ dX11_column_197 (fun H locs hG => ?_)
  refine lv_aload_n hx hb dX11_column_200 rfl (lv_at hl 0 rfl) ?_
  obtain ⟨v18, ev18, hf⟩ := zb hf
  refine zr_getI hB hG zF_11 (by decide) kf_X11_185 ev18 dX11_column_201 ?_
  refine lv_if_eq (tgt := 273) hx hb dX11_column_204 (by decide) (fun hc39 => ?_) (fun hc39 => ?_)
  · rw [if_pos hc39] at hf
    exact w_X11_column_273 hB hk100 _ _ _ h17 (x0) (x1) (x3) hG (lv_sub hl [0, 1, 2] rfl) hf
  · rw [if_neg hc39] at hf
    refine lv_iload_n hx hb dX11_column_207 rfl (lv_at hl 2 rfl) ?_
    refine lv_iconst (v := 1) hx hb dX11_column_208 (by decide) ?_
    refine lv_icmp_le (tgt := 273) hx hb dX11_column_209 (by decide) (fun hc38 => ?_) (fun hc38 => ?_)
    · rw [if_pos hc38] at hf
      exact w_X11_column_273 hB hk100 _ _ _ h17 (x0) (x1) (x3) hG (lv_sub hl [0, 1, 2] rfl) hf
    · rw [if_neg hc38] at hf
      refine lv_iload_n hx hb dX11_column_212 rfl (lv_at hl 1 rfl) ?_
      refine lv_if_le (tgt := 273) hx hb dX11_column_213 (by decide) (fun hc37 => ?_) (fun hc37 => ?_)
      · rw [if_pos hc37] at hf
        exact w_X11_column_273 hB hk100 _ _ _ h17 (x0) (x1) (x3) hG (lv_sub hl [0, 1, 2] rfl) hf
      · rw [if_neg hc37] at hf
        refine lv_aload_n hx hb dX11_column_216 rfl (lv_at hl 0 rfl) ?_
        refine lv_iload_n hx hb dX11_column_217 rfl (lv_at hl 2 rfl) ?_
        refine lv_iconst (v := 2) hx hb dX11_column_218 (by decide) ?_
        refine lv_isub hx hb dX11_column_219 ?_
        refine lv_aload_n hx hb dX11_column_220 rfl (lv_at hl 0 rfl) ?_
        obtain ⟨a19, ea19, hf⟩ := zb hf
        refine zr_getR hB hG zF_11 (by decide) kf_X11_48 ea19 dX11_column_221 ?_
        refine lv_iload_n hx hb dX11_column_224 rfl (lv_at hl 1 rfl) ?_
        obtain ⟨v20, ev20, hf⟩ := zb hf
        refine zr_iald hB hG ev20 dX11_column_225 ?_
        obtain ⟨o21, eo21, hf⟩ := zb hf
        obtain ⟨v23, h22, eh22, hf⟩ := zbp_s hf
        refine zr_callV (As := [.int (x3 - (2 : Int32)), .int v20]) kc_X11_178 hB hG (c_X11_fits eh22) eo21 rfl hl.1 rfl ⟨by decide, by decide⟩ (Nat.le_of_ble_eq_true rfl) ⟨by decide, by decide⟩ dX11_column_226 (fun H locs hG => ?_)
        refine lv_if_eq (tgt := 273) hx hb dX11_column_229 (by decide) (fun hc36 => ?_) (fun hc36 => ?_)
        · rw [if_pos hc36] at hf
          exact w_X11_column_273 hB hk100 _ _ _ h22 (x0) (x1) (x3) hG (lv_sub hl [0, 1, 2] rfl) hf
        · rw [if_neg hc36] at hf
          refine lv_aload_n hx hb dX11_column_232 rfl (lv_at hl 0 rfl) ?_
          refine lv_iload_n hx hb dX11_column_233 rfl (lv_at hl 2 rfl) ?_
          refine lv_iconst (v := 1) hx hb dX11_column_234 (by decide) ?_
          refine lv_isub hx hb dX11_column_235 ?_
          refine lv_aload_n hx hb dX11_column_236 rfl (lv_at hl 0 rfl) ?_
          obtain ⟨a24, ea24, hf⟩ := zb hf
          refine zr_getR hB hG zF_11 (by decide) kf_X11_48 ea24 dX11_column_237 ?_
          refine lv_iload_n hx hb dX11_column_240 rfl (lv_at hl 1 rfl) ?_
          refine lv_iconst (v := 1) hx hb dX11_column_241 (by decide) ?_
          refine lv_isub hx hb dX11_column_242 ?_
          obtain ⟨v25, ev25, hf⟩ := zb hf
          refine zr_iald hB hG ev25 dX11_column_243 ?_
          obtain ⟨o26, eo26, hf⟩ := zb hf
          obtain ⟨v28, h27, eh27, hf⟩ := zbp_s hf
          refine zr_callV (As := [.int (x3 - (1 : Int32)), .int v25]) kc_X11_178 hB hG (c_X11_fits eh27) eo26 rfl hl.1 rfl ⟨by decide, by decide⟩ (Nat.le_of_ble_eq_true rfl) ⟨by decide, by decide⟩ dX11_column_244 (fun H locs hG => ?_)
          refine lv_if_eq (tgt := 273) hx hb dX11_column_247 (by decide) (fun hc35 => ?_) (fun hc35 => ?_)
          · rw [if_pos hc35] at hf
            exact w_X11_column_273 hB hk100 _ _ _ h27 (x0) (x1) (x3) hG (lv_sub hl [0, 1, 2] rfl) hf
          · rw [if_neg hc35] at hf
            refine lv_aload_n hx hb dX11_column_250 rfl (lv_at hl 0 rfl) ?_
            refine lv_iload_n hx hb dX11_column_251 rfl (lv_at hl 2 rfl) ?_
            refine lv_aload_n hx hb dX11_column_252 rfl (lv_at hl 0 rfl) ?_
            obtain ⟨a29, ea29, hf⟩ := zb hf
            refine zr_getR hB hG zF_11 (by decide) kf_X11_57 ea29 dX11_column_253 ?_
            refine lv_iload_n hx hb dX11_column_256 rfl (lv_at hl 2 rfl) ?_
            refine lv_iconst (v := 2) hx hb dX11_column_257 (by decide) ?_
            refine lv_isub hx hb dX11_column_258 ?_
            obtain ⟨v30, ev30, hf⟩ := zb hf
            refine zr_iald hB hG ev30 dX11_column_259 ?_
            refine lv_iconst (v := 1) hx hb dX11_column_260 (by decide) ?_
            refine lv_iadd hx hb dX11_column_261 ?_
            refine lv_aload_n hx hb dX11_column_262 rfl (lv_at hl 0 rfl) ?_
            obtain ⟨a31, ea31, hf⟩ := zb hf
            refine zr_getR hB hG zF_11 (by decide) kf_X11_66 ea31 dX11_column_263 ?_
            refine lv_iload_n hx hb dX11_column_266 rfl (lv_at hl 2 rfl) ?_
            refine lv_iconst (v := 2) hx hb dX11_column_267 (by decide) ?_
            refine lv_isub hx hb dX11_column_268 ?_
            obtain ⟨v32, ev32, hf⟩ := zb hf
            refine zr_iald hB hG ev32 dX11_column_269 ?_
            obtain ⟨o33, eo33, hf⟩ := zb hf
            obtain ⟨h34, eh34, hf⟩ := zb hf
            refine zr_callVv (As := [.int x3, .int (v30 + (1 : Int32)), .int v32]) kc_X11_181 hB hG (c_X11_better eh34) eo33 rfl hl.1 rfl ⟨by decide, by decide⟩ (Nat.le_of_ble_eq_true rfl) ⟨by decide, by decide⟩ dX11_column_270 (fun H locs hG => ?_)
            exact w_X11_column_273 hB hk100 _ _ _ h34 (x0) (x1) (x3) hG (lv_sub hl [0, 1, 2] rfl) hf

set_option maxRecDepth 100000 in
set_option maxHeartbeats 4000000 in
theorem w_X11_column_100 {res : zh_H} (hB : zc_B p s m args meth c cX11_column 4 RX11 none D K) : ∀ n : Nat, ∀ (H : Heap) (locs : List Loc) (ls : Array Slot) (h : zh_H) (x0 : Nat) (x1 : Int32) (x3 : Int32), zh_G D K b0 N h s.heap H locs → lv_has ls 4 [(0, .ref x0), (1, .int x1), (3, .int x3)] → b_X11_column_100 n h x0 x1 x3 = some res → W p l e (zc_rm 1 0 0) s m args below meth c H locs 0 0 (MQ below (zc_Q D K b0 (zq none N res)) args s 0 0 (fun q => b0 ≤ q)) (F0 m 100 ls []) := by
  have hx := hB.1
  have hb := hB.2.1
  intro n
  induction n with
  | zero =>
    intro H locs ls h x0 x1 x3 hG hl hf
    cases hf
  | succ n ih =>
    intro H locs ls h x0 x1 x3 hG hl hf
    unfold b_X11_column_100 at hf
    refine lv_iload_n hx hb dX11_column_100 rfl (lv_at hl 2 rfl) ?_
    refine lv_aload_n hx hb dX11_column_101 rfl (lv_at hl 0 rfl) ?_
    obtain ⟨v1, ev1, hf⟩ := zb hf
    refine zr_getI hB hG zF_11 (by decide) kf_X11_172 ev1 dX11_column_102 ?_
    refine lv_icmp_gt (tgt := 279) hx hb dX11_column_105 (by decide) (fun hc11 => ?_) (fun hc11 => ?_)
    · rw [if_pos hc11] at hf
      obtain rfl := Option.some.inj hf
      exact zr_vret hB hG ⟨rfl, rfl, rfl⟩ dX11_column_279
    · rw [if_neg hc11] at hf
      refine lv_aload_n hx hb dX11_column_108 rfl (lv_at hl 0 rfl) ?_
      obtain ⟨a2, ea2, hf⟩ := zb hf
      refine zr_getR hB hG zF_11 (by decide) kf_X11_51 ea2 dX11_column_109 ?_
      refine lv_iload_n hx hb dX11_column_112 rfl (lv_at hl 2 rfl) ?_
      refine lv_aload_n hx hb dX11_column_113 rfl (lv_at hl 0 rfl) ?_
      obtain ⟨a3, ea3, hf⟩ := zb hf
      refine zr_getR hB hG zF_11 (by decide) kf_X11_54 ea3 dX11_column_114 ?_
      refine lv_iload_n hx hb dX11_column_117 rfl (lv_at hl 2 rfl) ?_
      refine lv_iconst (v := 1) hx hb dX11_column_118 (by decide) ?_
      refine lv_isub hx hb dX11_column_119 ?_
      obtain ⟨v4, ev4, hf⟩ := zb hf
      refine zr_iald hB hG ev4 dX11_column_120 ?_
      refine lv_aload_n hx hb dX11_column_121 rfl (lv_at hl 0 rfl) ?_
      refine lv_iload_n hx hb dX11_column_122 rfl (lv_at hl 2 rfl) ?_
      refine lv_iconst (v := 1) hx hb dX11_column_123 (by decide) ?_
      refine lv_isub hx hb dX11_column_124 ?_
      refine lv_aload_n hx hb dX11_column_125 rfl (lv_at hl 0 rfl) ?_
      obtain ⟨a5, ea5, hf⟩ := zb hf
      refine zr_getR hB hG zF_11 (by decide) kf_X11_48 ea5 dX11_column_126 ?_
      refine lv_iload_n hx hb dX11_column_129 rfl (lv_at hl 1 rfl) ?_
      obtain ⟨v6, ev6, hf⟩ := zb hf
      refine zr_iald hB hG ev6 dX11_column_130 ?_
      obtain ⟨o7, eo7, hf⟩ := zb hf
      obtain ⟨v9, h8, eh8, hf⟩ := zbp_s hf
      refine zr_callV (As := [.int (x3 - (1 : Int32)), .int v6]) kc_X11_178 hB hG (c_X11_fits eh8) eo7 rfl hl.1 rfl ⟨by decide, by decide⟩ (Nat.le_of_ble_eq_true rfl) ⟨by decide, by decide⟩ dX11_column_131 (fun H locs hG => ?_)
      refine lv_if_eq (tgt := 141) hx hb dX11_column_134 (by decide) (fun hc10 => ?_) (fun hc10 => ?_)
      · rw [if_pos hc10] at hf
        refine lv_iconst (v := 1) hx hb dX11_column_141 (by decide) ?_
        exact w_X11_column_142 hB ih _ _ _ h8 (x0) (x1) (x3) ((1 : Int32)) (v4) (x3) (a2) hG (lv_sub hl [0, 1, 2] rfl) hf
      · rw [if_neg hc10] at hf
        refine lv_iconst (v := 0) hx hb dX11_column_137 (by decide) ?_
        refine lv_goto (tgt := 142) hx hb dX11_column_138 (by decide) ?_
        exact w_X11_column_142 hB ih _ _ _ h8 (x0) (x1) (x3) ((0 : Int32)) (v4) (x3) (a2) hG (lv_sub hl [0, 1, 2] rfl) hf

set_option maxRecDepth 100000 in
set_option maxHeartbeats 4000000 in
theorem w_X11_column_97 {res : zh_H} (hB : zc_B p s m args meth c cX11_column 4 RX11 none D K) : ∀ (H : Heap) (locs : List Loc) (ls : Array Slot) (h : zh_H) (x0 : Nat) (x1 : Int32) (y0 : Int32) (y1 : Int32) (y2 : Nat), zh_G D K b0 N h s.heap H locs → lv_has ls 4 [(0, .ref x0), (1, .int x1)] → b_X11_column_97 h x0 x1 y0 y1 y2 = some res → W p l e (zc_rm 1 0 0) s m args below meth c H locs 0 0 (MQ below (zc_Q D K b0 (zq none N res)) args s 0 0 (fun q => b0 ≤ q)) (F0 m 97 ls [.int y0, .int y1, .ref y2]) := by
  have hx := hB.1
  have hb := hB.2.1
  intro H locs ls h x0 x1 y0 y1 y2 hG hl hf
  unfold b_X11_column_97 at hf
  obtain ⟨h1, eh1, hf⟩ := zb hf
  refine zr_iast hB hG eh1 dX11_column_97 (fun H locs hG => ?_)
  refine lv_iconst (v := 1) hx hb dX11_column_98 (by decide) ?_
  refine lv_istore_n (lv' := [(3, .int (1 : Int32)), (0, .ref x0), (1, .int x1)]) hx hb dX11_column_99 rfl hl (by decide) rfl (fun ls hl => ?_)
  exact w_X11_column_100 hB zFuel _ _ _ h1 (x0) (x1) ((1 : Int32)) hG (lv_sub hl [1, 2, 0] rfl) hf

set_option maxRecDepth 100000 in
set_option maxHeartbeats 4000000 in
theorem w_X11_column_80 {res : zh_H} (hB : zc_B p s m args meth c cX11_column 4 RX11 none D K) : ∀ (H : Heap) (locs : List Loc) (ls : Array Slot) (h : zh_H) (x0 : Nat) (x1 : Int32) (x2 : Int32) (y0 : Int32) (y1 : Int32) (y2 : Nat), zh_G D K b0 N h s.heap H locs → lv_has ls 4 [(0, .ref x0), (1, .int x1), (2, .int x2)] → b_X11_column_80 h x0 x1 x2 y0 y1 y2 = some res → W p l e (zc_rm 1 0 0) s m args below meth c H locs 0 0 (MQ below (zc_Q D K b0 (zq none N res)) args s 0 0 (fun q => b0 ≤ q)) (F0 m 80 ls [.int y0, .int y1, .ref y2]) := by
  have hx := hB.1
  have hb := hB.2.1
  intro H locs ls h x0 x1 x2 y0 y1 y2 hG hl hf
  unfold b_X11_column_80 at hf
  obtain ⟨h1, eh1, hf⟩ := zb hf
  refine zr_iast hB hG eh1 dX11_column_80 (fun H locs hG => ?_)
  refine lv_aload_n hx hb dX11_column_81 rfl (lv_at hl 0 rfl) ?_
  obtain ⟨a2, ea2, hf⟩ := zb hf
  refine zr_getR hB hG zF_11 (by decide) kf_X11_60 ea2 dX11_column_82 ?_
  refine lv_iconst (v := 0) hx hb dX11_column_85 (by decide) ?_
  refine lv_iload_n hx hb dX11_column_86 rfl (lv_at hl 2 rfl) ?_
  refine lv_if_eq (tgt := 96) hx hb dX11_column_87 (by decide) (fun hc3 => ?_) (fun hc3 => ?_)
  · rw [if_pos hc3] at hf
    refine lv_iconst (v := 0) hx hb dX11_column_96 (by decide) ?_
    exact w_X11_column_97 hB _ _ _ h1 (x0) (x1) ((0 : Int32)) ((0 : Int32)) (a2) hG (lv_sub hl [0, 1] rfl) hf
  · rw [if_neg hc3] at hf
    refine lv_iload_n hx hb dX11_column_90 rfl (lv_at hl 1 rfl) ?_
    refine lv_iconst (v := 1) hx hb dX11_column_91 (by decide) ?_
    refine lv_iadd hx hb dX11_column_92 ?_
    refine lv_goto (tgt := 97) hx hb dX11_column_93 (by decide) ?_
    exact w_X11_column_97 hB _ _ _ h1 (x0) (x1) ((x1 + (1 : Int32))) ((0 : Int32)) (a2) hG (lv_sub hl [0, 1] rfl) hf

set_option maxRecDepth 100000 in
set_option maxHeartbeats 4000000 in
theorem w_X11_column_2 {res : zh_H} (hB : zc_B p s m args meth c cX11_column 4 RX11 none D K) : ∀ n : Nat, ∀ (H : Heap) (locs : List Loc) (ls : Array Slot) (h : zh_H) (x0 : Nat) (x1 : Int32) (x2 : Int32) (x3 : Int32), zh_G D K b0 N h s.heap H locs → lv_has ls 4 [(0, .ref x0), (1, .int x1), (2, .int x2), (3, .int x3)] → b_X11_column_2 n h x0 x1 x2 x3 = some res → W p l e (zc_rm 1 0 0) s m args below meth c H locs 0 0 (MQ below (zc_Q D K b0 (zq none N res)) args s 0 0 (fun q => b0 ≤ q)) (F0 m 2 ls []) := by
  have hx := hB.1
  have hb := hB.2.1
  intro n
  induction n with
  | zero =>
    intro H locs ls h x0 x1 x2 x3 hG hl hf
    cases hf
  | succ n ih =>
    intro H locs ls h x0 x1 x2 x3 hG hl hf
    unfold b_X11_column_2 at hf
    refine lv_iload_n hx hb dX11_column_2 rfl (lv_at hl 3 rfl) ?_
    refine lv_aload_n hx hb dX11_column_3 rfl (lv_at hl 0 rfl) ?_
    obtain ⟨v1, ev1, hf⟩ := zb hf
    refine zr_getI hB hG zF_11 (by decide) kf_X11_172 ev1 dX11_column_4 ?_
    refine lv_icmp_gt (tgt := 64) hx hb dX11_column_7 (by decide) (fun hc20 => ?_) (fun hc20 => ?_)
    · rw [if_pos hc20] at hf
      refine lv_aload_n hx hb dX11_column_64 rfl (lv_at hl 0 rfl) ?_
      obtain ⟨a2, ea2, hf⟩ := zb hf
      refine zr_getR hB hG zF_11 (by decide) kf_X11_51 ea2 dX11_column_65 ?_
      refine lv_iconst (v := 0) hx hb dX11_column_68 (by decide) ?_
      refine lv_iload_n hx hb dX11_column_69 rfl (lv_at hl 2 rfl) ?_
      refine lv_if_eq (tgt := 77) hx hb dX11_column_70 (by decide) (fun hc3 => ?_) (fun hc3 => ?_)
      · rw [if_pos hc3] at hf
        refine lv_iload_n hx hb dX11_column_77 rfl (lv_at hl 1 rfl) ?_
        refine lv_iconst (v := 1) hx hb dX11_column_78 (by decide) ?_
        refine lv_iadd hx hb dX11_column_79 ?_
        exact w_X11_column_80 hB _ _ _ h (x0) (x1) (x2) ((x1 + (1 : Int32))) ((0 : Int32)) (a2) hG (lv_sub hl [0, 1, 2] rfl) hf
      · rw [if_neg hc3] at hf
        refine lv_iconst (v := 0) hx hb dX11_column_73 (by decide) ?_
        refine lv_goto (tgt := 80) hx hb dX11_column_74 (by decide) ?_
        exact w_X11_column_80 hB _ _ _ h (x0) (x1) (x2) ((0 : Int32)) ((0 : Int32)) (a2) hG (lv_sub hl [0, 1, 2] rfl) hf
    · rw [if_neg hc20] at hf
      refine lv_aload_n hx hb dX11_column_10 rfl (lv_at hl 0 rfl) ?_
      obtain ⟨a4, ea4, hf⟩ := zb hf
      refine zr_getR hB hG zF_11 (by decide) kf_X11_57 ea4 dX11_column_11 ?_
      refine lv_iload_n hx hb dX11_column_14 rfl (lv_at hl 3 rfl) ?_
      refine lv_aload_n hx hb dX11_column_15 rfl (lv_at hl 0 rfl) ?_
      obtain ⟨a5, ea5, hf⟩ := zb hf
      refine zr_getR hB hG zF_11 (by decide) kf_X11_54 ea5 dX11_column_16 ?_
      refine lv_iload_n hx hb dX11_column_19 rfl (lv_at hl 3 rfl) ?_
      obtain ⟨v6, ev6, hf⟩ := zb hf
      refine zr_iald hB hG ev6 dX11_column_20 ?_
      obtain ⟨h7, eh7, hf⟩ := zb hf
      refine zr_iast hB hG eh7 dX11_column_21 (fun H locs hG => ?_)
      refine lv_aload_n hx hb dX11_column_22 rfl (lv_at hl 0 rfl) ?_
      obtain ⟨a8, ea8, hf⟩ := zb hf
      refine zr_getR hB hG zF_11 (by decide) kf_X11_66 ea8 dX11_column_23 ?_
      refine lv_iload_n hx hb dX11_column_26 rfl (lv_at hl 3 rfl) ?_
      refine lv_aload_n hx hb dX11_column_27 rfl (lv_at hl 0 rfl) ?_
      obtain ⟨a9, ea9, hf⟩ := zb hf
      refine zr_getR hB hG zF_11 (by decide) kf_X11_63 ea9 dX11_column_28 ?_
      refine lv_iload_n hx hb dX11_column_31 rfl (lv_at hl 3 rfl) ?_
      obtain ⟨v10, ev10, hf⟩ := zb hf
      refine zr_iald hB hG ev10 dX11_column_32 ?_
      obtain ⟨h11, eh11, hf⟩ := zb hf
      refine zr_iast hB hG eh11 dX11_column_33 (fun H locs hG => ?_)
      refine lv_aload_n hx hb dX11_column_34 rfl (lv_at hl 0 rfl) ?_
      obtain ⟨a12, ea12, hf⟩ := zb hf
      refine zr_getR hB hG zF_11 (by decide) kf_X11_54 ea12 dX11_column_35 ?_
      refine lv_iload_n hx hb dX11_column_38 rfl (lv_at hl 3 rfl) ?_
      refine lv_aload_n hx hb dX11_column_39 rfl (lv_at hl 0 rfl) ?_
      obtain ⟨a13, ea13, hf⟩ := zb hf
      refine zr_getR hB hG zF_11 (by decide) kf_X11_51 ea13 dX11_column_40 ?_
      refine lv_iload_n hx hb dX11_column_43 rfl (lv_at hl 3 rfl) ?_
      obtain ⟨v14, ev14, hf⟩ := zb hf
      refine zr_iald hB hG ev14 dX11_column_44 ?_
      obtain ⟨h15, eh15, hf⟩ := zb hf
      refine zr_iast hB hG eh15 dX11_column_45 (fun H locs hG => ?_)
      refine lv_aload_n hx hb dX11_column_46 rfl (lv_at hl 0 rfl) ?_
      obtain ⟨a16, ea16, hf⟩ := zb hf
      refine zr_getR hB hG zF_11 (by decide) kf_X11_63 ea16 dX11_column_47 ?_
      refine lv_iload_n hx hb dX11_column_50 rfl (lv_at hl 3 rfl) ?_
      refine lv_aload_n hx hb dX11_column_51 rfl (lv_at hl 0 rfl) ?_
      obtain ⟨a17, ea17, hf⟩ := zb hf
      refine zr_getR hB hG zF_11 (by decide) kf_X11_60 ea17 dX11_column_52 ?_
      refine lv_iload_n hx hb dX11_column_55 rfl (lv_at hl 3 rfl) ?_
      obtain ⟨v18, ev18, hf⟩ := zb hf
      refine zr_iald hB hG ev18 dX11_column_56 ?_
      obtain ⟨h19, eh19, hf⟩ := zb hf
      refine zr_iast hB hG eh19 dX11_column_57 (fun H locs hG => ?_)
      refine lv_iinc (v := (x3 + (1 : Int32))) (lv' := [(3, .int (x3 + (1 : Int32))), (0, .ref x0), (1, .int x1), (2, .int x2)]) hx hb dX11_column_58 hl (k := 3) rfl rfl (by decide) rfl (fun ls hl => ?_)
      refine lv_goto (tgt := 2) hx hb dX11_column_61 (by decide) ?_
      exact ih _ _ _ h19 (x0) (x1) (x2) ((x3 + (1 : Int32))) hG (lv_sub hl [1, 2, 3, 0] rfl) hf

set_option maxRecDepth 100000 in
set_option maxHeartbeats 4000000 in
theorem w_X11_column_0 {res : zh_H} (hB : zc_B p s m args meth c cX11_column 4 RX11 none D K) : ∀ (H : Heap) (locs : List Loc) (ls : Array Slot) (h : zh_H) (x0 : Nat) (x1 : Int32) (x2 : Int32), zh_G D K b0 N h s.heap H locs → lv_has ls 4 [(0, .ref x0), (1, .int x1), (2, .int x2)] → b_X11_column_0 h x0 x1 x2 = some res → W p l e (zc_rm 1 0 0) s m args below meth c H locs 0 0 (MQ below (zc_Q D K b0 (zq none N res)) args s 0 0 (fun q => b0 ≤ q)) (F0 m 0 ls []) := by
  have hx := hB.1
  have hb := hB.2.1
  intro H locs ls h x0 x1 x2 hG hl hf
  unfold b_X11_column_0 at hf
  refine lv_iconst (v := 0) hx hb dX11_column_0 (by decide) ?_
  refine lv_istore_n (lv' := [(3, .int (0 : Int32)), (0, .ref x0), (1, .int x1), (2, .int x2)]) hx hb dX11_column_1 rfl hl (by decide) rfl (fun ls hl => ?_)
  exact w_X11_column_2 hB zFuel _ _ _ h (x0) (x1) (x2) ((0 : Int32)) hG (lv_sub hl [1, 2, 3, 0] rfl) hf
end G_X11_column
theorem c_X11_column {l : Launch} {D : va_G} {K : Nat → ClassId} {b0 N : Nat} {h : zh_H} {x0 : Nat} {x1 : Int32} {x2 : Int32} {h2 : zh_H} (hf : b_X11_column_0 h x0 x1 x2 = some h2) : zc l yX11_column cX11_column 4 none 1 0 0 D K b0 N h [.ref x0, .int x1, .int x2] (zq none N h2) := by
  refine zc.of [(0, .ref x0), (1, .int x1), (2, .int x2)] (by decide) rfl (Nat.le_of_ble_eq_true rfl) ?_
  intro p e s m args below meth c hB hnm hG ls hl
  exact w_X11_column_0 (res := h2) hB _ _ ls h x0 x1 x2 hG (lv_sub hl [0, 1, 2] rfl) hf

