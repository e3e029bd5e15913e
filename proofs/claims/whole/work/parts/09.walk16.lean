section G_X11_undo
variable {p : Program} {l : Launch} {e : Env} {s : State} {m : MethodId} {args : Array Value} {below : List Frame} {meth : Method} {c : Code} {D : va_G} {K : Nat → ClassId} {b0 N : Nat}
set_option maxRecDepth 100000 in
set_option maxHeartbeats 4000000 in
theorem w_X11_undo_34 {res : (Int32 × zh_H)} (hB : zc_B p s m args meth c cX11_undo 2 RX11 (some .int) D K) : ∀ n : Nat, ∀ (H : Heap) (locs : List Loc) (ls : Array Slot) (h : zh_H) (x0 : Nat) (x1 : Int32), zh_G D K b0 N h s.heap H locs → lv_has ls 2 [(0, .ref x0), (1, .int x1)] → b_X11_undo_34 n h x0 x1 = some res → W p l e (zc_rm 0 0 0) s m args below meth c H locs 0 0 (MQ below (zc_Q D K b0 (zq (some (.int res.1)) N res.2)) args s 0 0 (fun q => b0 ≤ q)) (F0 m 34 ls []) := by
  have hx := hB.1
  have hb := hB.2.1
  intro n
  induction n with
  | zero =>
    intro H locs ls h x0 x1 hG hl hf
    cases hf
  | succ n ih =>
    intro H locs ls h x0 x1 hG hl hf
    unfold b_X11_undo_34 at hf
    refine lv_iload_n hx hb dX11_undo_34 rfl (lv_at hl 1 rfl) ?_
    refine lv_aload_n hx hb dX11_undo_35 rfl (lv_at hl 0 rfl) ?_
    obtain ⟨v1, ev1, hf⟩ := zb hf
    refine zr_getI hB hG zF_11 (by decide) kf_X11_162 ev1 dX11_undo_36 ?_
    refine lv_icmp_ge (tgt := 69) hx hb dX11_undo_39 (by decide) (fun hc8 => ?_) (fun hc8 => ?_)
    · rw [if_pos hc8] at hf
      refine lv_aload_n hx hb dX11_undo_69 rfl (lv_at hl 0 rfl) ?_
      obtain ⟨v2, ev2, hf⟩ := zb hf
      refine zr_getI hB hG zF_11 (by decide) kf_X11_162 ev2 dX11_undo_70 ?_
      obtain rfl := Option.some.inj hf
      exact zr_iret hB hG ⟨rfl, rfl, rfl⟩ dX11_undo_73
    · rw [if_neg hc8] at hf
      refine lv_aload_n hx hb dX11_undo_42 rfl (lv_at hl 0 rfl) ?_
      obtain ⟨a3, ea3, hf⟩ := zb hf
      refine zr_getR hB hG zF_11 (by decide) kf_X11_13 ea3 dX11_undo_43 ?_
      refine lv_iload_n hx hb dX11_undo_46 rfl (lv_at hl 1 rfl) ?_
      refine lv_aload_n hx hb dX11_undo_47 rfl (lv_at hl 0 rfl) ?_
      obtain ⟨a4, ea4, hf⟩ := zb hf
      refine zr_getR hB hG zF_11 (by decide) kf_X11_16 ea4 dX11_undo_48 ?_
      refine lv_sipush (v := 1500) hx hb dX11_undo_51 (by decide) ?_
      refine lv_aload_n hx hb dX11_undo_54 rfl (lv_at hl 0 rfl) ?_
      obtain ⟨v5, ev5, hf⟩ := zb hf
      refine zr_getI hB hG zF_11 (by decide) kf_X11_159 ev5 dX11_undo_55 ?_
      refine lv_imul hx hb dX11_undo_58 ?_
      refine lv_iload_n hx hb dX11_undo_59 rfl (lv_at hl 1 rfl) ?_
      refine lv_iadd hx hb dX11_undo_60 ?_
      obtain ⟨v6, ev6, hf⟩ := zb hf
      refine zr_iald hB hG ev6 dX11_undo_61 ?_
      obtain ⟨h7, eh7, hf⟩ := zb hf
      refine zr_iast hB hG eh7 dX11_undo_62 (fun H locs hG => ?_)
      refine lv_iinc (v := (x1 + (1 : Int32))) (lv' := [(1, .int (x1 + (1 : Int32))), (0, .ref x0)]) hx hb dX11_undo_63 hl (k := 1) rfl rfl (by decide) rfl (fun ls hl => ?_)
      refine lv_goto (tgt := 34) hx hb dX11_undo_66 (by decide) ?_
      exact ih _ _ _ h7 (x0) ((x1 + (1 : Int32))) hG (lv_sub hl [1, 0] rfl) hf

set_option maxRecDepth 100000 in
set_option maxHeartbeats 4000000 in
theorem w_X11_undo_0 {res : (Int32 × zh_H)} (hB : zc_B p s m args meth c cX11_undo 2 RX11 (some .int) D K) : ∀ (H : Heap) (locs : List Loc) (ls : Array Slot) (h : zh_H) (x0 : Nat), zh_G D K b0 N h s.heap H locs → lv_has ls 2 [(0, .ref x0)] → b_X11_undo_0 h x0 = some res → W p l e (zc_rm 0 0 0) s m args below meth c H locs 0 0 (MQ below (zc_Q D K b0 (zq (some (.int res.1)) N res.2)) args s 0 0 (fun q => b0 ≤ q)) (F0 m 0 ls []) := by
  have hx := hB.1
  have hb := hB.2.1
  intro H locs ls h x0 hG hl hf
  unfold b_X11_undo_0 at hf
  refine lv_aload_n hx hb dX11_undo_0 rfl (lv_at hl 0 rfl) ?_
  obtain ⟨v1, ev1, hf⟩ := zb hf
  refine zr_getI hB hG zF_11 (by decide) kf_X11_159 ev1 dX11_undo_1 ?_
  refine lv_if_ne (tgt := 9) hx hb dX11_undo_4 (by decide) (fun hc8 => ?_) (fun hc8 => ?_)
  · rw [if_neg hc8] at hf
    refine lv_aload_n hx hb dX11_undo_9 rfl (lv_at hl 0 rfl) ?_
    refine lv_dup hx hb dX11_undo_10 rfl ?_
    obtain ⟨v2, ev2, hf⟩ := zb hf
    refine zr_getI hB hG zF_11 (by decide) kf_X11_159 ev2 dX11_undo_11 ?_
    refine lv_iconst (v := 1) hx hb dX11_undo_14 (by decide) ?_
    refine lv_isub hx hb dX11_undo_15 ?_
    obtain ⟨h3, eh3, hf⟩ := zb hf
    refine zr_put hB hG zF_11 (by decide) kf_X11_159 rfl rfl rfl eh3 dX11_undo_16 (fun H locs hG => ?_)
    refine lv_aload_n hx hb dX11_undo_19 rfl (lv_at hl 0 rfl) ?_
    refine lv_aload_n hx hb dX11_undo_20 rfl (lv_at hl 0 rfl) ?_
    obtain ⟨a4, ea4, hf⟩ := zb hf
    refine zr_getR hB hG zF_11 (by decide) kf_X11_19 ea4 dX11_undo_21 ?_
    refine lv_aload_n hx hb dX11_undo_24 rfl (lv_at hl 0 rfl) ?_
    obtain ⟨v5, ev5, hf⟩ := zb hf
    refine zr_getI hB hG zF_11 (by decide) kf_X11_159 ev5 dX11_undo_25 ?_
    obtain ⟨v6, ev6, hf⟩ := zb hf
    refine zr_iald hB hG ev6 dX11_undo_28 ?_
    obtain ⟨h7, eh7, hf⟩ := zb hf
    refine zr_put hB hG zF_11 (by decide) kf_X11_162 rfl rfl rfl eh7 dX11_undo_29 (fun H locs hG => ?_)
    refine lv_iconst (v := 0) hx hb dX11_undo_32 (by decide) ?_
    refine lv_istore_n (lv' := [(1, .int (0 : Int32)), (0, .ref x0)]) hx hb dX11_undo_33 rfl hl (by decide) rfl (fun ls hl => ?_)
    exact w_X11_undo_34 hB zFuel _ _ _ h7 (x0) ((0 : Int32)) hG (lv_sub hl [1, 0] rfl) hf
  · rw [if_pos hc8] at hf
    refine lv_iconst (v := -1) hx hb dX11_undo_7 (by decide) ?_
    obtain rfl := Option.some.inj hf
    exact zr_iret hB hG ⟨rfl, rfl, rfl⟩ dX11_undo_8
end G_X11_undo
theorem c_X11_undo {l : Launch} {D : va_G} {K : Nat → ClassId} {b0 N : Nat} {h : zh_H} {x0 : Nat} {r : Int32} {h2 : zh_H} (hf : b_X11_undo_0 h x0 = some (r, h2)) : zc l yX11_undo cX11_undo 2 (some .int) 0 0 0 D K b0 N h [.ref x0] (zq (some (.int r)) N h2) := by
  refine zc.of [(0, .ref x0)] (by decide) rfl (Nat.le_of_ble_eq_true rfl) ?_
  intro p e s m args below meth c hB hnm hG ls hl
  exact w_X11_undo_0 (res := (r, h2)) hB _ _ ls h x0 hG (lv_sub hl [0] rfl) hf

section G_X11_which
variable {p : Program} {l : Launch} {e : Env} {s : State} {m : MethodId} {args : Array Value} {below : List Frame} {meth : Method} {c : Code} {D : va_G} {K : Nat → ClassId} {b0 N : Nat}
set_option maxRecDepth 100000 in
set_option maxHeartbeats 4000000 in
theorem w_X11_which_81 {res : (Int32 × zh_H)} (hB : zc_B p s m args meth c cX11_which 8 RX11 (some .int) D K) {k21 : zh_H → Nat → Int32 → Int32 → Int32 → Int32 → Int32 → Int32 → Option (Int32 × zh_H)} (hk21 : ∀ (H : Heap) (locs : List Loc) (ls : Array Slot) (h : zh_H) (x0 : Nat) (x1 : Int32) (x2 : Int32) (x3 : Int32) (x4 : Int32) (x5 : Int32) (x6 : Int32), zh_G D K b0 N h s.heap H locs → lv_has ls 8 [(0, .ref x0), (1, .int x1), (2, .int x2), (3, .int x3), (4, .int x4), (5, .int x5), (6, .int x6)] → k21 h x0 x1 x2 x3 x4 x5 x6 = some res → W p l e (zc_rm 3 0 0) s m args below meth c H locs 0 0 (MQ below (zc_Q D K b0 (zq (some (.int res.1)) N res.2)) args s 0 0 (fun q => b0 ≤ q)) (F0 m 21 ls [])) : ∀ (H : Heap) (locs : List Loc) (ls : Array Slot) (h : zh_H) (x0 : Nat) (x1 : Int32) (x2 : Int32) (x3 : Int32) (x4 : Int32) (x5 : Int32) (x6 : Int32), zh_G D K b0 N h s.heap H locs → lv_has ls 8 [(0, .ref x0), (1, .int x1), (2, .int x2), (3, .int x3), (4, .int x4), (5, .int x5), (6, .int x6)] → b_X11_which_81 k21 h x0 x1 x2 x3 x4 x5 x6 = some res → W p l e (zc_rm 3 0 0) s m args below meth c H locs 0 0 (MQ below (zc_Q D K b0 (zq (some (.int res.1)) N res.2)) args s 0 0 (fun q => b0 ≤ q)) (F0 m 81 ls []) := by
  have hx := hB.1
  have hb := hB.2.1
  intro H locs ls h x0 x1 x2 x3 x4 x5 x6 hG hl hf
  unfold b_X11_which_81 at hf
  refine lv_iinc (v := (x6 + (1 : Int32))) (lv' := [(6, .int (x6 + (1 : Int32))), (0, .ref x0), (1, .int x1), (2, .int x2), (3, .int x3), (4, .int x4), (5, .int x5)]) hx hb dX11_which_81 hl (k := 6) rfl rfl (by decide) rfl (fun ls hl => ?_)
  refine lv_goto (tgt := 21) hx hb dX11_which_84 (by decide) ?_
  exact hk21 _ _ _ h (x0) (x1) (x2) (x3) (x4) (x5) ((x6 + (1 : Int32))) hG (lv_sub hl [1, 2, 3, 4, 5, 6, 0] rfl) hf

set_option maxRecDepth 100000 in
set_option maxHeartbeats 4000000 in
theorem w_X11_which_73 {res : (Int32 × zh_H)} (hB : zc_B p s m args meth c cX11_which 8 RX11 (some .int) D K) {k21 : zh_H → Nat → Int32 → Int32 → Int32 → Int32 → Int32 → Int32 → Option (Int32 × zh_H)} (hk21 : ∀ (H : Heap) (locs : List Loc) (ls : Array Slot) (h : zh_H) (x0 : Nat) (x1 : Int32) (x2 : Int32) (x3 : Int32) (x4 : Int32) (x5 : Int32) (x6 : Int32), zh_G D K b0 N h s.heap H locs → lv_has ls 8 [(0, .ref x0), (1, .int x1), (2, .int x2), (3, .int x3), (4, .int x4), (5, .int x5), (6, .int x6)] → k21 h x0 x1 x2 x3 x4 x5 x6 = some res → W p l e (zc_rm 3 0 0) s m args below meth c H locs 0 0 (MQ below (zc_Q D K b0 (zq (some (.int res.1)) N res.2)) args s 0 0 (fun q => b0 ≤ q)) (F0 m 21 ls [])) : ∀ (H : Heap) (locs : List Loc) (ls : Array Slot) (h : zh_H) (x0 : Nat) (x1 : Int32) (x2 : Int32) (x3 : Int32) (x6 : Int32) (x7 : Int32), zh_G D K b0 N h s.heap H locs → lv_has ls 8 [(0, .ref x0), (1, .int x1), (2, .int x2), (3, .int x3), (6, .int x6), (7, .int x7)] → b_X11_which_73 k21 h x0 x1 x2 x3 x6 x7 = some res → W p l e (zc_rm 3 0 0) s m args below meth c H locs 0 0 (MQ below (zc_Q D K b0 (zq (some (.int res.1)) N res.2)) args s 0 0 (fun q => b0 ≤ q)) (F0 m 73 ls []) := by
  have hx := hB.1
  have hb := hB.2.1
  intro H locs ls h x0 x1 x2 x3 x6 x7 hG hl hf
  unfold b_X11_which_73 at hf
  refine lv_iload hx hb dX11_which_73 (lv_at hl 4 rfl) ?_
  refine lv_istore (lv' := [(4, .int x6), (0, .ref x0), (1, .int x1), (2, .int x2), (3, .int x3), (6, .int x6), (7, .int x7)]) hx hb dX11_which_75 hl (by decide) rfl (fun ls hl => ?_)
  refine lv_iload hx hb dX11_which_77 (lv_at hl 6 rfl) ?_
  refine lv_istore (lv' := [(5, .int x7), (4, .int x6), (0, .ref x0), (1, .int x1), (2, .int x2), (3, .int x3), (6, .int x6), (7, .int x7)]) hx hb dX11_which_79 hl (by decide) rfl (fun ls hl => ?_)
  exact w_X11_which_81 hB hk21 _ _ _ h (x0) (x1) (x2) (x3) (x6) (x7) (x6) hG (lv_sub hl [2, 3, 4, 5, 1, 0, 6] rfl) hf

set_option maxRecDepth 100000 in
set_option maxHeartbeats 4000000 in
theorem w_X11_which_21 {res : (Int32 × zh_H)} (hB : zc_B p s m args meth c cX11_which 8 RX11 (some .int) D K) : ∀ n : Nat, ∀ (H : Heap) (locs : List Loc) (ls : Array Slot) (h : zh_H) (x0 : Nat) (x1 : Int32) (x2 : Int32) (x3 : Int32) (x4 : Int32) (x5 : Int32) (x6 : Int32), zh_G D K b0 N h s.heap H locs → lv_has ls 8 [(0, .ref x0), (1, .int x1), (2, .int x2), (3, .int x3), (4, .int x4), (5, .int x5), (6, .int x6)] → b_X11_which_21 n h x0 x1 x2 x3 x4 x5 x6 = some res → W p l e (zc_rm 3 0 0) s m args below meth c H locs 0 0 (MQ below (zc_Q D K b0 (zq (some (.int res.1)) N res.2)) args s 0 0 (fun q => b0 ≤ q)) (F0 m 21 ls []) := by
  have hx := hB.1
  have hb := hB.2.1
  intro n
  induction n with
  | zero =>
    intro H locs ls h x0 x1 x2 x3 x4 x5 x6 hG hl hf
    cases hf
  | succ n ih =>
    intro H locs ls h x0 x1 x2 x3 x4 x5 x6 hG hl hf
    unfold b_X11_which_21 at hf
    refine lv_iload hx hb dX11_which_21 (lv_at hl 6 rfl) ?_
    refine lv_bipush (v := 8) hx hb dX11_which_23 (by decide) ?_
    refine lv_icmp_ge (tgt := 87) hx hb dX11_which_25 (by decide) (fun hc14 => ?_) (fun hc14 => ?_)
    · rw [if_pos hc14] at hf
      refine lv_iload hx hb dX11_which_87 (lv_at hl 4 rfl) ?_
      obtain rfl := Option.some.inj hf
      exact zr_iret hB hG ⟨rfl, rfl, rfl⟩ dX11_which_89
    · rw [if_neg hc14] at hf
      refine lv_aload_n hx hb dX11_which_28 rfl (lv_at hl 0 rfl) ?_
      obtain ⟨a1, ea1, hf⟩ := zb hf
      refine zr_getR hB hG zF_11 (by decide) kf_X11_29 ea1 dX11_which_29 ?_
      refine lv_iload hx hb dX11_which_32 (lv_at hl 6 rfl) ?_
      obtain ⟨v2, ev2, hf⟩ := zb hf
      refine zr_iald hB hG ev2 dX11_which_34 ?_
      refine lv_if_le (tgt := 81) hx hb dX11_which_35 (by decide) (fun hc13 => ?_) (fun hc13 => ?_)
      · rw [if_pos hc13] at hf
        exact w_X11_which_81 hB ih _ _ _ h (x0) (x1) (x2) (x3) (x4) (x5) (x6) hG (lv_sub hl [0, 1, 2, 3, 4, 5, 6] rfl) hf
      · rw [if_neg hc13] at hf
        refine lv_aload_n hx hb dX11_which_38 rfl (lv_at hl 0 rfl) ?_
        refine lv_iload hx hb dX11_which_39 (lv_at hl 6 rfl) ?_
        obtain ⟨o3, eo3, hf⟩ := zb hf
        obtain ⟨h4, eh4, hf⟩ := zb hf
        refine zr_callVv (As := [.int x6]) kc_X11_199 hB hG (c_X11_loadPattern eh4) eo3 rfl hl.1 rfl ⟨by decide, by decide⟩ (Nat.le_of_ble_eq_true rfl) ⟨by decide, by decide⟩ dX11_which_41 (fun H locs hG => ?_)
        refine lv_aload_n hx hb dX11_which_44 rfl (lv_at hl 0 rfl) ?_
        refine lv_iload_n hx hb dX11_which_45 rfl (lv_at hl 1 rfl) ?_
        refine lv_iload_n hx hb dX11_which_46 rfl (lv_at hl 2 rfl) ?_
        obtain ⟨o5, eo5, hf⟩ := zb hf
        obtain ⟨h6, eh6, hf⟩ := zb hf
        refine zr_callVv (As := [.int x1, .int x2]) kc_X11_202 hB hG (c_X11_loadBytes eh6) eo5 rfl hl.1 rfl ⟨by decide, by decide⟩ (Nat.le_of_ble_eq_true rfl) ⟨by decide, by decide⟩ dX11_which_47 (fun H locs hG => ?_)
        refine lv_aload_n hx hb dX11_which_50 rfl (lv_at hl 0 rfl) ?_
        refine lv_iload_n hx hb dX11_which_51 rfl (lv_at hl 3 rfl) ?_
        obtain ⟨h7, eh7, hf⟩ := zb hf
        refine zr_putZ hB hG zF_11 (by decide) kf_X11_185 rfl rfl eh7 dX11_which_52 (fun H locs hG => ?_)
        refine lv_aload_n hx hb dX11_which_55 rfl (lv_at hl 0 rfl) ?_
        obtain ⟨o8, eo8, hf⟩ := zb hf
        obtain ⟨v10, h9, eh9, hf⟩ := zbp_s hf
        refine zr_callV (As := []) kc_X11_227 hB hG (c_X11_distance eh9) eo8 rfl hl.1 rfl ⟨by decide, by decide⟩ (Nat.le_of_ble_eq_true rfl) ⟨by decide, by decide⟩ dX11_which_56 (fun H locs hG => ?_)
        refine lv_istore (lv' := [(7, .int v10), (0, .ref x0), (1, .int x1), (2, .int x2), (3, .int x3), (4, .int x4), (5, .int x5), (6, .int x6)]) hx hb dX11_which_59 hl (by decide) rfl (fun ls hl => ?_)
        refine lv_iload hx hb dX11_which_61 (lv_at hl 5 rfl) ?_
        refine lv_if_lt (tgt := 73) hx hb dX11_which_63 (by decide) (fun hc12 => ?_) (fun hc12 => ?_)
        · rw [if_pos hc12] at hf
          exact w_X11_which_73 hB ih _ _ _ h9 (x0) (x1) (x2) (x3) (x6) (v10) hG (lv_sub hl [1, 2, 3, 4, 7, 0] rfl) hf
        · rw [if_neg hc12] at hf
          refine lv_iload hx hb dX11_which_66 (lv_at hl 0 rfl) ?_
          refine lv_iload hx hb dX11_which_68 (lv_at hl 6 rfl) ?_
          refine lv_icmp_ge (tgt := 81) hx hb dX11_which_70 (by decide) (fun hc11 => ?_) (fun hc11 => ?_)
          · rw [if_pos hc11] at hf
            exact w_X11_which_81 hB ih _ _ _ h9 (x0) (x1) (x2) (x3) (x4) (x5) (x6) hG (lv_sub hl [1, 2, 3, 4, 5, 6, 7] rfl) hf
          · rw [if_neg hc11] at hf
            exact w_X11_which_73 hB ih _ _ _ h9 (x0) (x1) (x2) (x3) (x6) (v10) hG (lv_sub hl [1, 2, 3, 4, 7, 0] rfl) hf

set_option maxRecDepth 100000 in
set_option maxHeartbeats 4000000 in
theorem w_X11_which_0 {res : (Int32 × zh_H)} (hB : zc_B p s m args meth c cX11_which 8 RX11 (some .int) D K) : ∀ (H : Heap) (locs : List Loc) (ls : Array Slot) (h : zh_H) (x0 : Nat) (x1 : Int32) (x2 : Int32) (x3 : Int32), zh_G D K b0 N h s.heap H locs → lv_has ls 8 [(0, .ref x0), (1, .int x1), (2, .int x2), (3, .int x3)] → b_X11_which_0 h x0 x1 x2 x3 = some res → W p l e (zc_rm 3 0 0) s m args below meth c H locs 0 0 (MQ below (zc_Q D K b0 (zq (some (.int res.1)) N res.2)) args s 0 0 (fun q => b0 ≤ q)) (F0 m 0 ls []) := by
  have hx := hB.1
  have hb := hB.2.1
  intro H locs ls h x0 x1 x2 x3 hG hl hf
  unfold b_X11_which_0 at hf
  refine lv_aload_n hx hb dX11_which_0 rfl (lv_at hl 0 rfl) ?_
  refine lv_iload_n hx hb dX11_which_1 rfl (lv_at hl 1 rfl) ?_
  refine lv_iload_n hx hb dX11_which_2 rfl (lv_at hl 2 rfl) ?_
  obtain ⟨o1, eo1, hf⟩ := zb hf
  obtain ⟨v3, h2, eh2, hf⟩ := zbp_s hf
  refine zr_callV (As := [.int x1, .int x2]) kc_X11_168 hB hG (c_X11_isPart eh2) eo1 rfl hl.1 rfl ⟨by decide, by decide⟩ (Nat.le_of_ble_eq_true rfl) ⟨by decide, by decide⟩ dX11_which_3 (fun H locs hG => ?_)
  refine lv_if_ne (tgt := 12) hx hb dX11_which_6 (by decide) (fun hc4 => ?_) (fun hc4 => ?_)
  · rw [if_neg hc4] at hf
    refine lv_iconst (v := -1) hx hb dX11_which_12 (by decide) ?_
    refine lv_istore (lv' := [(4, .int (-1 : Int32)), (0, .ref x0), (1, .int x1), (2, .int x2), (3, .int x3)]) hx hb dX11_which_13 hl (by decide) rfl (fun ls hl => ?_)
    refine lv_iconst (v := 0) hx hb dX11_which_15 (by decide) ?_
    refine lv_istore (lv' := [(5, .int (0 : Int32)), (4, .int (-1 : Int32)), (0, .ref x0), (1, .int x1), (2, .int x2), (3, .int x3)]) hx hb dX11_which_16 hl (by decide) rfl (fun ls hl => ?_)
    refine lv_iconst (v := 0) hx hb dX11_which_18 (by decide) ?_
    refine lv_istore (lv' := [(6, .int (0 : Int32)), (5, .int (0 : Int32)), (4, .int (-1 : Int32)), (0, .ref x0), (1, .int x1), (2, .int x2), (3, .int x3)]) hx hb dX11_which_19 hl (by decide) rfl (fun ls hl => ?_)
    exact w_X11_which_21 hB zFuel _ _ _ h2 (x0) (x1) (x2) (x3) ((-1 : Int32)) ((0 : Int32)) ((0 : Int32)) hG (lv_sub hl [3, 4, 5, 6, 2, 1, 0] rfl) hf
  · rw [if_pos hc4] at hf
    refine lv_bipush (v := -2) hx hb dX11_which_9 (by decide) ?_
    obtain rfl := Option.some.inj hf
    exact zr_iret hB hG ⟨rfl, rfl, rfl⟩ dX11_which_11
end G_X11_which
theorem c_X11_which {l : Launch} {D : va_G} {K : Nat → ClassId} {b0 N : Nat} {h : zh_H} {x0 : Nat} {x1 : Int32} {x2 : Int32} {x3 : Int32} {r : Int32} {h2 : zh_H} (hf : b_X11_which_0 h x0 x1 x2 x3 = some (r, h2)) : zc l yX11_which cX11_which 8 (some .int) 3 0 0 D K b0 N h [.ref x0, .int x1, .int x2, .int x3] (zq (some (.int r)) N h2) := by
  refine zc.of [(0, .ref x0), (1, .int x1), (2, .int x2), (3, .int x3)] (by decide) rfl (Nat.le_of_ble_eq_true rfl) ?_
  intro p e s m args below meth c hB hnm hG ls hl
  exact w_X11_which_0 (res := (r, h2)) hB _ _ ls h x0 x1 x2 x3 hG (lv_sub hl [0, 1, 2, 3] rfl) hf

section G_X11_whole
variable {p : Program} {l : Launch} {e : Env} {s : State} {m : MethodId} {args : Array Value} {below : List Frame} {meth : Method} {c : Code} {D : va_G} {K : Nat → ClassId} {b0 N : Nat}
set_option maxRecDepth 100000 in
set_option maxHeartbeats 4000000 in
theorem w_X11_whole_29 {res : (Int32 × zh_H)} (hB : zc_B p s m args meth c cX11_whole 7 RX11 (some .int) D K) : ∀ (H : Heap) (locs : List Loc) (ls : Array Slot) (h : zh_H), zh_G D K b0 N h s.heap H locs → lv_has ls 7 [] → b_X11_whole_29 h  = some res → W p l e (zc_rm 3 0 0) s m args below meth c H locs 0 0 (MQ below (zc_Q D K b0 (zq (some (.int res.1)) N res.2)) args s 0 0 (fun q => b0 ≤ q)) (F0 m 29 ls []) := by
  have hx := hB.1
  have hb := hB.2.1
  intro H locs ls h  hG hl hf
  unfold b_X11_whole_29 at hf
  refine lv_bipush (v := -2) hx hb dX11_whole_29 (by decide) ?_
  obtain rfl := Option.some.inj hf
  exact zr_iret hB hG ⟨rfl, rfl, rfl⟩ dX11_whole_31

set_option maxRecDepth 100000 in
set_option maxHeartbeats 4000000 in
theorem w_X11_whole_69 {res : (Int32 × zh_H)} (hB : zc_B p s m args meth c cX11_whole 7 RX11 (some .int) D K) : ∀ (H : Heap) (locs : List Loc) (ls : Array Slot) (h : zh_H) (y0 : Int32), zh_G D K b0 N h s.heap H locs → lv_has ls 7 [] → b_X11_whole_69 h y0 = some res → W p l e (zc_rm 3 0 0) s m args below meth c H locs 0 0 (MQ below (zc_Q D K b0 (zq (some (.int res.1)) N res.2)) args s 0 0 (fun q => b0 ≤ q)) (F0 m 69 ls [.int y0]) := by
  have hx := hB.1
  have hb := hB.2.1
  intro H locs ls h y0 hG hl hf
  unfold b_X11_whole_69 at hf
  obtain rfl := Option.some.inj hf
  exact zr_iret hB hG ⟨rfl, rfl, rfl⟩ dX11_whole_69

set_option maxRecDepth 100000 in
set_option maxHeartbeats 4000000 in
theorem w_X11_whole_0 {res : (Int32 × zh_H)} (hB : zc_B p s m args meth c cX11_whole 7 RX11 (some .int) D K) : ∀ (H : Heap) (locs : List Loc) (ls : Array Slot) (h : zh_H) (x0 : Nat) (x1 : Int32) (x2 : Int32) (x3 : Int32) (x4 : Int32) (x5 : Int32), zh_G D K b0 N h s.heap H locs → lv_has ls 7 [(0, .ref x0), (1, .int x1), (2, .int x2), (3, .int x3), (4, .int x4), (5, .int x5)] → b_X11_whole_0 h x0 x1 x2 x3 x4 x5 = some res → W p l e (zc_rm 3 0 0) s m args below meth c H locs 0 0 (MQ below (zc_Q D K b0 (zq (some (.int res.1)) N res.2)) args s 0 0 (fun q => b0 ≤ q)) (F0 m 0 ls []) := by
  have hx := hB.1
  have hb := hB.2.1
  intro H locs ls h x0 x1 x2 x3 x4 x5 hG hl hf
  unfold b_X11_whole_0 at hf
  refine lv_aload_n hx hb dX11_whole_0 rfl (lv_at hl 0 rfl) ?_
  refine lv_iload_n hx hb dX11_whole_1 rfl (lv_at hl 1 rfl) ?_
  obtain ⟨o1, eo1, hf⟩ := zb hf
  obtain ⟨v3, h2, eh2, hf⟩ := zbp_s hf
  refine zr_callV (As := [.int x1]) kc_X11_156 hB hG (c_X11_isThere eh2) eo1 rfl hl.1 rfl ⟨by decide, by decide⟩ (Nat.le_of_ble_eq_true rfl) ⟨by decide, by decide⟩ dX11_whole_2 (fun H locs hG => ?_)
  refine lv_if_eq (tgt := 29) hx hb dX11_whole_5 (by decide) (fun hc20 => ?_) (fun hc20 => ?_)
  · rw [if_pos hc20] at hf
    exact w_X11_whole_29 hB _ _ _ h2  hG (lv_sub hl [] rfl) hf
  · rw [if_neg hc20] at hf
    refine lv_aload_n hx hb dX11_whole_8 rfl (lv_at hl 0 rfl) ?_
    refine lv_iload_n hx hb dX11_whole_9 rfl (lv_at hl 2 rfl) ?_
    refine lv_iload_n hx hb dX11_whole_10 rfl (lv_at hl 3 rfl) ?_
    obtain ⟨o4, eo4, hf⟩ := zb hf
    obtain ⟨v6, h5, eh5, hf⟩ := zbp_s hf
    refine zr_callV (As := [.int x2, .int x3]) kc_X11_168 hB hG (c_X11_isPart eh5) eo4 rfl hl.1 rfl ⟨by decide, by decide⟩ (Nat.le_of_ble_eq_true rfl) ⟨by decide, by decide⟩ dX11_whole_11 (fun H locs hG => ?_)
    refine lv_if_eq (tgt := 29) hx hb dX11_whole_14 (by decide) (fun hc19 => ?_) (fun hc19 => ?_)
    · rw [if_pos hc19] at hf
      exact w_X11_whole_29 hB _ _ _ h5  hG (lv_sub hl [] rfl) hf
    · rw [if_neg hc19] at hf
      refine lv_iload hx hb dX11_whole_17 (lv_at hl 5 rfl) ?_
      refine lv_iconst (v := 0) hx hb dX11_whole_19 (by decide) ?_
      refine lv_sipush (v := 2000) hx hb dX11_whole_20 (by decide) ?_
      obtain ⟨v8, h7, eh7, hf⟩ := zbp_s hf
      refine zr_callS (As := [.int x5, .int (0 : Int32), .int (2000 : Int32)]) kc_X11_100 hB hG (c_X11_in eh7) rfl hl.1 rfl ⟨by decide, by decide⟩ (Nat.le_of_ble_eq_true rfl) ⟨by decide, by decide⟩ dX11_whole_23 (fun H locs hG => ?_)
      refine lv_if_ne (tgt := 32) hx hb dX11_whole_26 (by decide) (fun hc18 => ?_) (fun hc18 => ?_)
      · rw [if_neg hc18] at hf
        refine lv_aload_n hx hb dX11_whole_32 rfl (lv_at hl 0 rfl) ?_
        refine lv_iload_n hx hb dX11_whole_33 rfl (lv_at hl 1 rfl) ?_
        obtain ⟨o9, eo9, hf⟩ := zb hf
        obtain ⟨h10, eh10, hf⟩ := zb hf
        refine zr_callVv (As := [.int x1]) kc_X11_199 hB hG (c_X11_loadPattern eh10) eo9 rfl hl.1 rfl ⟨by decide, by decide⟩ (Nat.le_of_ble_eq_true rfl) ⟨by decide, by decide⟩ dX11_whole_34 (fun H locs hG => ?_)
        refine lv_aload_n hx hb dX11_whole_37 rfl (lv_at hl 0 rfl) ?_
        refine lv_iload_n hx hb dX11_whole_38 rfl (lv_at hl 2 rfl) ?_
        refine lv_iload_n hx hb dX11_whole_39 rfl (lv_at hl 3 rfl) ?_
        obtain ⟨o11, eo11, hf⟩ := zb hf
        obtain ⟨h12, eh12, hf⟩ := zb hf
        refine zr_callVv (As := [.int x2, .int x3]) kc_X11_202 hB hG (c_X11_loadBytes eh12) eo11 rfl hl.1 rfl ⟨by decide, by decide⟩ (Nat.le_of_ble_eq_true rfl) ⟨by decide, by decide⟩ dX11_whole_40 (fun H locs hG => ?_)
        refine lv_aload_n hx hb dX11_whole_43 rfl (lv_at hl 0 rfl) ?_
        refine lv_iload hx hb dX11_whole_44 (lv_at hl 4 rfl) ?_
        obtain ⟨h13, eh13, hf⟩ := zb hf
        refine zr_putZ hB hG zF_11 (by decide) kf_X11_185 rfl rfl eh13 dX11_whole_46 (fun H locs hG => ?_)
        refine lv_aload_n hx hb dX11_whole_49 rfl (lv_at hl 0 rfl) ?_
        obtain ⟨o14, eo14, hf⟩ := zb hf
        obtain ⟨v16, h15, eh15, hf⟩ := zbp_s hf
        refine zr_callV (As := []) kc_X11_227 hB hG (c_X11_distance eh15) eo14 rfl hl.1 rfl ⟨by decide, by decide⟩ (Nat.le_of_ble_eq_true rfl) ⟨by decide, by decide⟩ dX11_whole_50 (fun H locs hG => ?_)
        refine lv_istore (lv' := [(6, .int v16), (0, .ref x0), (1, .int x1), (2, .int x2), (3, .int x3), (4, .int x4), (5, .int x5)]) hx hb dX11_whole_53 hl (by decide) rfl (fun ls hl => ?_)
        refine lv_iload hx hb dX11_whole_55 (lv_at hl 0 rfl) ?_
        refine lv_iload hx hb dX11_whole_57 (lv_at hl 6 rfl) ?_
        refine lv_icmp_le (tgt := 67) hx hb dX11_whole_59 (by decide) (fun hc17 => ?_) (fun hc17 => ?_)
        · rw [if_pos hc17] at hf
          refine lv_iload hx hb dX11_whole_67 (lv_at hl 0 rfl) ?_
          exact w_X11_whole_69 hB _ _ _ h15 (v16) hG (lv_sub hl [] rfl) hf
        · rw [if_neg hc17] at hf
          refine lv_bipush (v := -4) hx hb dX11_whole_62 (by decide) ?_
          refine lv_goto (tgt := 69) hx hb dX11_whole_64 (by decide) ?_
          exact w_X11_whole_69 hB _ _ _ h15 ((-4 : Int32)) hG (lv_sub hl [] rfl) hf
      · rw [if_pos hc18] at hf
        exact w_X11_whole_29 hB _ _ _ h7  hG (lv_sub hl [] rfl) hf
end G_X11_whole
theorem c_X11_whole {l : Launch} {D : va_G} {K : Nat → ClassId} {b0 N : Nat} {h : zh_H} {x0 : Nat} {x1 : Int32} {x2 : Int32} {x3 : Int32} {x4 : Int32} {x5 : Int32} {r : Int32} {h2 : zh_H} (hf : b_X11_whole_0 h x0 x1 x2 x3 x4 x5 = some (r, h2)) : zc l yX11_whole cX11_whole 7 (some .int) 3 0 0 D K b0 N h [.ref x0, .int x1, .int x2, .int x3, .int x4, .int x5] (zq (some (.int r)) N h2) := by
  refine zc.of [(0, .ref x0), (1, .int x1), (2, .int x2), (3, .int x3), (4, .int x4), (5, .int x5)] (by decide) rfl (Nat.le_of_ble_eq_true rfl) ?_
  intro p e s m args below meth c hB hnm hG ls hl
  exact w_X11_whole_0 (res := (r, h2)) hB _ _ ls h x0 x1 x2 x3 x4 x5 hG (lv_sub hl [0, 1, 2, 3, 4, 5] rfl) hf

