section G_X4_readElement
variable {p : Program} {l : Launch} {e : Env} {s : State} {m : MethodId} {args : Array Value} {below : List Frame} {meth : Method} {c : Code} {D : va_G} {K : Nat → ClassId} {b0 N : Nat}
set_option maxRecDepth 100000 in
set_option maxHeartbeats 4000000 in
theorem w_X4_readElement_152 {res : zh_H} (hB : zc_B p s m args meth c cX4_readElement 3 RX4 none D K) : ∀ (H : Heap) (locs : List Loc) (ls : Array Slot) (h : zh_H), zh_G D K b0 N h s.heap H locs → lv_has ls 3 [] → b_X4_readElement_152 h  = some res → W p l e (zc_rm 4 0 0) s m args below meth c H locs 0 0 (MQ below (zc_Q D K b0 (zq none N res)) args s 0 0 (fun q => b0 ≤ q)) (F0 m 152 ls []) := by
  have hx := hB.1
  have hb := hB.2.1
  intro H locs ls h  hG hl hf
  unfold b_X4_readElement_152 at hf
  obtain rfl := Option.some.inj hf
  exact zr_vret hB hG ⟨rfl, rfl, rfl⟩ dX4_readElement_152

set_option maxRecDepth 100000 in
set_option maxHeartbeats 4000000 in
theorem w_X4_readElement_130 {res : zh_H} (hB : zc_B p s m args meth c cX4_readElement 3 RX4 none D K) : ∀ (H : Heap) (locs : List Loc) (ls : Array Slot) (h : zh_H) (x0 : Nat), zh_G D K b0 N h s.heap H locs → lv_has ls 3 [(0, .ref x0)] → b_X4_readElement_130 h x0 = some res → W p l e (zc_rm 4 0 0) s m args below meth c H locs 0 0 (MQ below (zc_Q D K b0 (zq none N res)) args s 0 0 (fun q => b0 ≤ q)) (F0 m 130 ls []) := by
  have hx := hB.1
  have hb := hB.2.1
  intro H locs ls h x0 hG hl hf
  unfold b_X4_readElement_130 at hf
  refine lv_aload_n hx hb dX4_readElement_130 rfl (lv_at hl 0 rfl) ?_
  obtain ⟨v1, ev1, hf⟩ := zb hf
  refine zr_getI hB hG zF_4 (by decide) kf_X4_34 ev1 dX4_readElement_131 ?_
  refine lv_if_ne (tgt := 152) hx hb dX4_readElement_134 (by decide) (fun hc7 => ?_) (fun hc7 => ?_)
  · rw [if_neg hc7] at hf
    exact w_X4_readElement_152 hB _ _ _ h  hG (lv_sub hl [] rfl) hf
  · rw [if_pos hc7] at hf
    refine lv_aload_n hx hb dX4_readElement_137 rfl (lv_at hl 0 rfl) ?_
    obtain ⟨a2, ea2, hf⟩ := zb hf
    refine zr_getR hB hG zF_4 (by decide) kf_X4_23 ea2 dX4_readElement_138 ?_
    refine lv_aload_n hx hb dX4_readElement_141 rfl (lv_at hl 0 rfl) ?_
    obtain ⟨u3, eu3, hf⟩ := zb hf
    refine zr_getL hB hG zF_4 (by decide) kf_X4_54 eu3 dX4_readElement_142 ?_
    refine lv_aload_n hx hb dX4_readElement_145 rfl (lv_at hl 0 rfl) ?_
    obtain ⟨u4, eu4, hf⟩ := zb hf
    refine zr_getL hB hG zF_4 (by decide) kf_X4_58 eu4 dX4_readElement_146 ?_
    obtain ⟨o5, eo5, hf⟩ := zb hf
    obtain ⟨h6, eh6, hf⟩ := zb hf
    refine zr_callVv (As := [.long u3, .long u4]) kc_X4_75 hB hG (c_X7_add eh6) eo5 rfl hl.1 rfl ⟨by decide, by decide⟩ (Nat.le_of_ble_eq_true rfl) ⟨by decide, by decide⟩ dX4_readElement_149 (fun H locs hG => ?_)
    exact w_X4_readElement_152 hB _ _ _ h6  hG (lv_sub hl [] rfl) hf

set_option maxRecDepth 100000 in
set_option maxHeartbeats 4000000 in
theorem w_X4_readElement_0 {res : zh_H} (hB : zc_B p s m args meth c cX4_readElement 3 RX4 none D K) : ∀ (H : Heap) (locs : List Loc) (ls : Array Slot) (h : zh_H) (x0 : Nat), zh_G D K b0 N h s.heap H locs → lv_has ls 3 [(0, .ref x0)] → b_X4_readElement_0 h x0 = some res → W p l e (zc_rm 4 0 0) s m args below meth c H locs 0 0 (MQ below (zc_Q D K b0 (zq none N res)) args s 0 0 (fun q => b0 ≤ q)) (F0 m 0 ls []) := by
  have hx := hB.1
  have hb := hB.2.1
  intro H locs ls h x0 hG hl hf
  unfold b_X4_readElement_0 at hf
  refine lv_aload_n hx hb dX4_readElement_0 rfl (lv_at hl 0 rfl) ?_
  obtain ⟨a1, ea1, hf⟩ := zb hf
  refine zr_getR hB hG zF_4 (by decide) kf_X4_14 ea1 dX4_readElement_1 ?_
  refine lv_aload_n hx hb dX4_readElement_4 rfl (lv_at hl 0 rfl) ?_
  obtain ⟨v2, ev2, hf⟩ := zb hf
  refine zr_getI hB hG zF_4 (by decide) kf_X4_31 ev2 dX4_readElement_5 ?_
  obtain ⟨o3, eo3, hf⟩ := zb hf
  obtain ⟨v5, h4, eh4, hf⟩ := zbp_s hf
  refine zr_callV (As := [.int v2]) kc_X4_50 hB hG (c_X0_get eh4) eo3 rfl hl.1 rfl ⟨by decide, by decide⟩ (Nat.le_of_ble_eq_true rfl) ⟨by decide, by decide⟩ dX4_readElement_8 (fun H locs hG => ?_)
  refine lv_istore_n (lv' := [(1, .int v5), (0, .ref x0)]) hx hb dX4_readElement_11 rfl hl (by decide) rfl (fun ls hl => ?_)
  refine lv_aload_n hx hb dX4_readElement_12 rfl (lv_at hl 1 rfl) ?_
  refine lv_lconst (v := 0) hx hb dX4_readElement_13 (by decide) ?_
  obtain ⟨h6, eh6, hf⟩ := zb hf
  refine zr_put hB hG zF_4 (by decide) kf_X4_54 rfl rfl rfl eh6 dX4_readElement_14 (fun H locs hG => ?_)
  refine lv_aload_n hx hb dX4_readElement_17 rfl (lv_at hl 1 rfl) ?_
  refine lv_lconst (v := 0) hx hb dX4_readElement_18 (by decide) ?_
  obtain ⟨h7, eh7, hf⟩ := zb hf
  refine zr_put hB hG zF_4 (by decide) kf_X4_58 rfl rfl rfl eh7 dX4_readElement_19 (fun H locs hG => ?_)
  refine lv_iload_n hx hb dX4_readElement_22 rfl (lv_at hl 0 rfl) ?_
  refine lv_bipush (v := 93) hx hb dX4_readElement_23 (by decide) ?_
  refine lv_icmp_ne (tgt := 40) hx hb dX4_readElement_25 (by decide) (fun hc34 => ?_) (fun hc34 => ?_)
  · rw [if_neg hc34] at hf
    refine lv_aload_n hx hb dX4_readElement_40 rfl (lv_at hl 1 rfl) ?_
    obtain ⟨a8, ea8, hf⟩ := zb hf
    refine zr_getR hB hG zF_4 (by decide) kf_X4_23 ea8 dX4_readElement_41 ?_
    obtain ⟨v9, ev9, hf⟩ := zb hf
    refine zr_getI hB hG zF_7 (by decide) kf_X4_61 ev9 dX4_readElement_44 ?_
    refine lv_sipush (v := 200) hx hb dX4_readElement_47 (by decide) ?_
    refine lv_icmp_lt (tgt := 65) hx hb dX4_readElement_50 (by decide) (fun hc30 => ?_) (fun hc30 => ?_)
    · rw [if_pos hc30] at hf
      refine lv_iload_n hx hb dX4_readElement_65 rfl (lv_at hl 0 rfl) ?_
      refine lv_bipush (v := 91) hx hb dX4_readElement_66 (by decide) ?_
      refine lv_icmp_ne (tgt := 88) hx hb dX4_readElement_68 (by decide) (fun hc26 => ?_) (fun hc26 => ?_)
      · rw [if_neg hc26] at hf
        refine lv_iload_n hx hb dX4_readElement_88 rfl (lv_at hl 0 rfl) ?_
        refine lv_bipush (v := 46) hx hb dX4_readElement_89 (by decide) ?_
        refine lv_icmp_ne (tgt := 119) hx hb dX4_readElement_91 (by decide) (fun hc21 => ?_) (fun hc21 => ?_)
        · rw [if_neg hc21] at hf
          refine lv_aload_n hx hb dX4_readElement_119 rfl (lv_at hl 1 rfl) ?_
          obtain ⟨o10, eo10, hf⟩ := zb hf
          obtain ⟨v12, h11, eh11, hf⟩ := zbp_s hf
          refine zr_callV (As := []) kc_X4_71 hB hG (c_X4_takeByte eh11) eo10 rfl hl.1 rfl ⟨by decide, by decide⟩ (Nat.le_of_ble_eq_true rfl) ⟨by decide, by decide⟩ dX4_readElement_120 (fun H locs hG => ?_)
          refine lv_istore_n (lv' := [(2, .int v12), (1, .int v5), (0, .ref x0)]) hx hb dX4_readElement_123 rfl hl (by decide) rfl (fun ls hl => ?_)
          refine lv_aload_n hx hb dX4_readElement_124 rfl (lv_at hl 2 rfl) ?_
          refine lv_iload_n hx hb dX4_readElement_125 rfl (lv_at hl 0 rfl) ?_
          refine lv_iload_n hx hb dX4_readElement_126 rfl (lv_at hl 0 rfl) ?_
          obtain ⟨o13, eo13, hf⟩ := zb hf
          obtain ⟨h14, eh14, hf⟩ := zb hf
          refine zr_callVv (As := [.int v12, .int v12]) kc_X4_65 hB hG (c_X4_addRange eh14) eo13 rfl hl.1 rfl ⟨by decide, by decide⟩ (Nat.le_of_ble_eq_true rfl) ⟨by decide, by decide⟩ dX4_readElement_127 (fun H locs hG => ?_)
          exact w_X4_readElement_130 hB _ _ _ h14 (x0) hG (lv_sub hl [2] rfl) hf
        · rw [if_pos hc21] at hf
          refine lv_aload_n hx hb dX4_readElement_94 rfl (lv_at hl 1 rfl) ?_
          refine lv_dup hx hb dX4_readElement_95 rfl ?_
          obtain ⟨v15, ev15, hf⟩ := zb hf
          refine zr_getI hB hG zF_4 (by decide) kf_X4_31 ev15 dX4_readElement_96 ?_
          refine lv_iconst (v := 1) hx hb dX4_readElement_99 (by decide) ?_
          refine lv_iadd hx hb dX4_readElement_100 ?_
          obtain ⟨h16, eh16, hf⟩ := zb hf
          refine zr_put hB hG zF_4 (by decide) kf_X4_31 rfl rfl rfl eh16 dX4_readElement_101 (fun H locs hG => ?_)
          refine lv_aload_n hx hb dX4_readElement_104 rfl (lv_at hl 1 rfl) ?_
          refine lv_bipush (v := 10) hx hb dX4_readElement_105 (by decide) ?_
          refine lv_bipush (v := 10) hx hb dX4_readElement_107 (by decide) ?_
          obtain ⟨o17, eo17, hf⟩ := zb hf
          obtain ⟨h18, eh18, hf⟩ := zb hf
          refine zr_callVv (As := [.int (10 : Int32), .int (10 : Int32)]) kc_X4_65 hB hG (c_X4_addRange eh18) eo17 rfl hl.1 rfl ⟨by decide, by decide⟩ (Nat.le_of_ble_eq_true rfl) ⟨by decide, by decide⟩ dX4_readElement_109 (fun H locs hG => ?_)
          refine lv_aload_n hx hb dX4_readElement_112 rfl (lv_at hl 1 rfl) ?_
          obtain ⟨o19, eo19, hf⟩ := zb hf
          obtain ⟨h20, eh20, hf⟩ := zb hf
          refine zr_callVv (As := []) kc_X4_68 hB hG (c_X4_turnRound eh20) eo19 rfl hl.1 rfl ⟨by decide, by decide⟩ (Nat.le_of_ble_eq_true rfl) ⟨by decide, by decide⟩ dX4_readElement_113 (fun H locs hG => ?_)
          refine lv_goto (tgt := 130) hx hb dX4_readElement_116 (by decide) ?_
          exact w_X4_readElement_130 hB _ _ _ h20 (x0) hG (lv_sub hl [1] rfl) hf
      · rw [if_pos hc26] at hf
        refine lv_aload_n hx hb dX4_readElement_71 rfl (lv_at hl 1 rfl) ?_
        refine lv_dup hx hb dX4_readElement_72 rfl ?_
        obtain ⟨v22, ev22, hf⟩ := zb hf
        refine zr_getI hB hG zF_4 (by decide) kf_X4_31 ev22 dX4_readElement_73 ?_
        refine lv_iconst (v := 1) hx hb dX4_readElement_76 (by decide) ?_
        refine lv_iadd hx hb dX4_readElement_77 ?_
        obtain ⟨h23, eh23, hf⟩ := zb hf
        refine zr_put hB hG zF_4 (by decide) kf_X4_31 rfl rfl rfl eh23 dX4_readElement_78 (fun H locs hG => ?_)
        refine lv_aload_n hx hb dX4_readElement_81 rfl (lv_at hl 1 rfl) ?_
        obtain ⟨o24, eo24, hf⟩ := zb hf
        obtain ⟨h25, eh25, hf⟩ := zb hf
        refine zr_callVv (As := []) kc_X4_62 hB hG (c_X4_readItems eh25) eo24 rfl hl.1 rfl ⟨by decide, by decide⟩ (Nat.le_of_ble_eq_true rfl) ⟨by decide, by decide⟩ dX4_readElement_82 (fun H locs hG => ?_)
        refine lv_goto (tgt := 130) hx hb dX4_readElement_85 (by decide) ?_
        exact w_X4_readElement_130 hB _ _ _ h25 (x0) hG (lv_sub hl [1] rfl) hf
    · rw [if_neg hc30] at hf
      refine lv_aload_n hx hb dX4_readElement_53 rfl (lv_at hl 1 rfl) ?_
      refine lv_iconst (v := 4) hx hb dX4_readElement_54 (by decide) ?_
      refine lv_aload_n hx hb dX4_readElement_55 rfl (lv_at hl 1 rfl) ?_
      obtain ⟨v27, ev27, hf⟩ := zb hf
      refine zr_getI hB hG zF_4 (by decide) kf_X4_31 ev27 dX4_readElement_56 ?_
      obtain ⟨o28, eo28, hf⟩ := zb hf
      obtain ⟨h29, eh29, hf⟩ := zb hf
      refine zr_callVv (As := [.int (4 : Int32), .int v27]) kc_X4_43 hB hG (c_X4_fail eh29) eo28 rfl hl.1 rfl ⟨by decide, by decide⟩ (Nat.le_of_ble_eq_true rfl) ⟨by decide, by decide⟩ dX4_readElement_59 (fun H locs hG => ?_)
      refine lv_goto (tgt := 130) hx hb dX4_readElement_62 (by decide) ?_
      exact w_X4_readElement_130 hB _ _ _ h29 (x0) hG (lv_sub hl [1] rfl) hf
  · rw [if_pos hc34] at hf
    refine lv_aload_n hx hb dX4_readElement_28 rfl (lv_at hl 1 rfl) ?_
    refine lv_iconst (v := 1) hx hb dX4_readElement_29 (by decide) ?_
    refine lv_aload_n hx hb dX4_readElement_30 rfl (lv_at hl 1 rfl) ?_
    obtain ⟨v31, ev31, hf⟩ := zb hf
    refine zr_getI hB hG zF_4 (by decide) kf_X4_31 ev31 dX4_readElement_31 ?_
    obtain ⟨o32, eo32, hf⟩ := zb hf
    obtain ⟨h33, eh33, hf⟩ := zb hf
    refine zr_callVv (As := [.int (1 : Int32), .int v31]) kc_X4_43 hB hG (c_X4_fail eh33) eo32 rfl hl.1 rfl ⟨by decide, by decide⟩ (Nat.le_of_ble_eq_true rfl) ⟨by decide, by decide⟩ dX4_readElement_34 (fun H locs hG => ?_)
    refine lv_goto (tgt := 130) hx hb dX4_readElement_37 (by decide) ?_
    exact w_X4_readElement_130 hB _ _ _ h33 (x0) hG (lv_sub hl [1] rfl) hf
end G_X4_readElement
theorem c_X4_readElement {l : Launch} {D : va_G} {K : Nat → ClassId} {b0 N : Nat} {h : zh_H} {x0 : Nat} {h2 : zh_H} (hf : b_X4_readElement_0 h x0 = some h2) : zc l yX4_readElement cX4_readElement 3 none 4 0 0 D K b0 N h [.ref x0] (zq none N h2) := by
  refine zc.of [(0, .ref x0)] (by decide) rfl (Nat.le_of_ble_eq_true rfl) ?_
  intro p e s m args below meth c hB hnm hG ls hl
  exact w_X4_readElement_0 (res := h2) hB _ _ ls h x0 hG (lv_sub hl [0] rfl) hf

section G_X4_read
variable {p : Program} {l : Launch} {e : Env} {s : State} {m : MethodId} {args : Array Value} {below : List Frame} {meth : Method} {c : Code} {D : va_G} {K : Nat → ClassId} {b0 N : Nat}
set_option maxRecDepth 100000 in
set_option maxHeartbeats 4000000 in
theorem w_X4_read_87 {res : zh_H} (hB : zc_B p s m args meth c cX4_read 3 RX4 none D K) : ∀ (H : Heap) (locs : List Loc) (ls : Array Slot) (h : zh_H), zh_G D K b0 N h s.heap H locs → lv_has ls 3 [] → b_X4_read_87 h  = some res → W p l e (zc_rm 5 0 0) s m args below meth c H locs 0 0 (MQ below (zc_Q D K b0 (zq none N res)) args s 0 0 (fun q => b0 ≤ q)) (F0 m 87 ls []) := by
  have hx := hB.1
  have hb := hB.2.1
  intro H locs ls h  hG hl hf
  unfold b_X4_read_87 at hf
  obtain rfl := Option.some.inj hf
  exact zr_vret hB hG ⟨rfl, rfl, rfl⟩ dX4_read_87

set_option maxRecDepth 100000 in
set_option maxHeartbeats 4000000 in
theorem w_X4_read_45 {res : zh_H} (hB : zc_B p s m args meth c cX4_read 3 RX4 none D K) : ∀ n : Nat, ∀ (H : Heap) (locs : List Loc) (ls : Array Slot) (h : zh_H) (x0 : Nat) (x2 : Int32), zh_G D K b0 N h s.heap H locs → lv_has ls 3 [(0, .ref x0), (2, .int x2)] → b_X4_read_45 n h x0 x2 = some res → W p l e (zc_rm 5 0 0) s m args below meth c H locs 0 0 (MQ below (zc_Q D K b0 (zq none N res)) args s 0 0 (fun q => b0 ≤ q)) (F0 m 45 ls []) := by
  have hx := hB.1
  have hb := hB.2.1
  intro n
  induction n with
  | zero =>
    intro H locs ls h x0 x2 hG hl hf
    cases hf
  | succ n ih =>
    intro H locs ls h x0 x2 hG hl hf
    unfold b_X4_read_45 at hf
    refine lv_iload_n hx hb dX4_read_45 rfl (lv_at hl 1 rfl) ?_
    refine lv_aload_n hx hb dX4_read_46 rfl (lv_at hl 0 rfl) ?_
    obtain ⟨a1, ea1, hf⟩ := zb hf
    refine zr_getR hB hG zF_4 (by decide) kf_X4_14 ea1 dX4_read_47 ?_
    obtain ⟨v2, ev2, hf⟩ := zb hf
    refine zr_getI hB hG zF_0 (by decide) kf_X4_40 ev2 dX4_read_50 ?_
    refine lv_icmp_ge (tgt := 87) hx hb dX4_read_53 (by decide) (fun hc11 => ?_) (fun hc11 => ?_)
    · rw [if_pos hc11] at hf
      exact w_X4_read_87 hB _ _ _ h  hG (lv_sub hl [] rfl) hf
    · rw [if_neg hc11] at hf
      refine lv_aload_n hx hb dX4_read_56 rfl (lv_at hl 0 rfl) ?_
      obtain ⟨v3, ev3, hf⟩ := zb hf
      refine zr_getI hB hG zF_4 (by decide) kf_X4_31 ev3 dX4_read_57 ?_
      refine lv_aload_n hx hb dX4_read_60 rfl (lv_at hl 0 rfl) ?_
      obtain ⟨a4, ea4, hf⟩ := zb hf
      refine zr_getR hB hG zF_4 (by decide) kf_X4_14 ea4 dX4_read_61 ?_
      obtain ⟨v5, ev5, hf⟩ := zb hf
      refine zr_getI hB hG zF_0 (by decide) kf_X4_40 ev5 dX4_read_64 ?_
      refine lv_icmp_ge (tgt := 87) hx hb dX4_read_67 (by decide) (fun hc10 => ?_) (fun hc10 => ?_)
      · rw [if_pos hc10] at hf
        exact w_X4_read_87 hB _ _ _ h  hG (lv_sub hl [] rfl) hf
      · rw [if_neg hc10] at hf
        refine lv_aload_n hx hb dX4_read_70 rfl (lv_at hl 0 rfl) ?_
        obtain ⟨v6, ev6, hf⟩ := zb hf
        refine zr_getI hB hG zF_4 (by decide) kf_X4_34 ev6 dX4_read_71 ?_
        refine lv_if_ne (tgt := 87) hx hb dX4_read_74 (by decide) (fun hc9 => ?_) (fun hc9 => ?_)
        · rw [if_neg hc9] at hf
          exact w_X4_read_87 hB _ _ _ h  hG (lv_sub hl [] rfl) hf
        · rw [if_pos hc9] at hf
          refine lv_aload_n hx hb dX4_read_77 rfl (lv_at hl 0 rfl) ?_
          obtain ⟨o7, eo7, hf⟩ := zb hf
          obtain ⟨h8, eh8, hf⟩ := zb hf
          refine zr_callVv (As := []) kc_X4_47 hB hG (c_X4_readElement eh8) eo7 rfl hl.1 rfl ⟨by decide, by decide⟩ (Nat.le_of_ble_eq_true rfl) ⟨by decide, by decide⟩ dX4_read_78 (fun H locs hG => ?_)
          refine lv_iinc (v := (x2 + (1 : Int32))) (lv' := [(2, .int (x2 + (1 : Int32))), (0, .ref x0)]) hx hb dX4_read_81 hl (k := 1) rfl rfl (by decide) rfl (fun ls hl => ?_)
          refine lv_goto (tgt := 45) hx hb dX4_read_84 (by decide) ?_
          exact ih _ _ _ h8 (x0) ((x2 + (1 : Int32))) hG (lv_sub hl [1, 0] rfl) hf

set_option maxRecDepth 100000 in
set_option maxHeartbeats 4000000 in
theorem w_X4_read_43 {res : zh_H} (hB : zc_B p s m args meth c cX4_read 3 RX4 none D K) : ∀ (H : Heap) (locs : List Loc) (ls : Array Slot) (h : zh_H) (x0 : Nat), zh_G D K b0 N h s.heap H locs → lv_has ls 3 [(0, .ref x0)] → b_X4_read_43 h x0 = some res → W p l e (zc_rm 5 0 0) s m args below meth c H locs 0 0 (MQ below (zc_Q D K b0 (zq none N res)) args s 0 0 (fun q => b0 ≤ q)) (F0 m 43 ls []) := by
  have hx := hB.1
  have hb := hB.2.1
  intro H locs ls h x0 hG hl hf
  unfold b_X4_read_43 at hf
  refine lv_iconst (v := 0) hx hb dX4_read_43 (by decide) ?_
  refine lv_istore_n (lv' := [(2, .int (0 : Int32)), (0, .ref x0)]) hx hb dX4_read_44 rfl hl (by decide) rfl (fun ls hl => ?_)
  exact w_X4_read_45 hB zFuel _ _ _ h (x0) ((0 : Int32)) hG (lv_sub hl [1, 0] rfl) hf

set_option maxRecDepth 100000 in
set_option maxHeartbeats 4000000 in
theorem w_X4_read_0 {res : zh_H} (hB : zc_B p s m args meth c cX4_read 3 RX4 none D K) : ∀ (H : Heap) (locs : List Loc) (ls : Array Slot) (h : zh_H) (x0 : Nat) (x1 : Nat), zh_G D K b0 N h s.heap H locs → lv_has ls 3 [(0, .ref x0), (1, .ref x1)] → b_X4_read_0 h x0 x1 = some res → W p l e (zc_rm 5 0 0) s m args below meth c H locs 0 0 (MQ below (zc_Q D K b0 (zq none N res)) args s 0 0 (fun q => b0 ≤ q)) (F0 m 0 ls []) := by
  have hx := hB.1
  have hb := hB.2.1
  intro H locs ls h x0 x1 hG hl hf
  unfold b_X4_read_0 at hf
  refine lv_aload_n hx hb dX4_read_0 rfl (lv_at hl 0 rfl) ?_
  refine lv_aload_n hx hb dX4_read_1 rfl (lv_at hl 1 rfl) ?_
  obtain ⟨h1, eh1, hf⟩ := zb hf
  refine zr_put hB hG zF_4 (by decide) kf_X4_14 rfl rfl rfl eh1 dX4_read_2 (fun H locs hG => ?_)
  refine lv_aload_n hx hb dX4_read_5 rfl (lv_at hl 0 rfl) ?_
  refine lv_iconst (v := 0) hx hb dX4_read_6 (by decide) ?_
  obtain ⟨h2, eh2, hf⟩ := zb hf
  refine zr_put hB hG zF_4 (by decide) kf_X4_31 rfl rfl rfl eh2 dX4_read_7 (fun H locs hG => ?_)
  refine lv_aload_n hx hb dX4_read_10 rfl (lv_at hl 0 rfl) ?_
  refine lv_iconst (v := 0) hx hb dX4_read_11 (by decide) ?_
  obtain ⟨h3, eh3, hf⟩ := zb hf
  refine zr_put hB hG zF_4 (by decide) kf_X4_34 rfl rfl rfl eh3 dX4_read_12 (fun H locs hG => ?_)
  refine lv_aload_n hx hb dX4_read_15 rfl (lv_at hl 0 rfl) ?_
  refine lv_iconst (v := -1) hx hb dX4_read_16 (by decide) ?_
  obtain ⟨h4, eh4, hf⟩ := zb hf
  refine zr_put hB hG zF_4 (by decide) kf_X4_27 rfl rfl rfl eh4 dX4_read_17 (fun H locs hG => ?_)
  refine lv_aload_n hx hb dX4_read_20 rfl (lv_at hl 0 rfl) ?_
  obtain ⟨a5, ea5, hf⟩ := zb hf
  refine zr_getR hB hG zF_4 (by decide) kf_X4_23 ea5 dX4_read_21 ?_
  obtain ⟨o6, eo6, hf⟩ := zb hf
  obtain ⟨h7, eh7, hf⟩ := zb hf
  refine zr_callVv (As := []) kc_X4_37 hB hG (c_X7_clear eh7) eo6 rfl hl.1 rfl ⟨by decide, by decide⟩ (Nat.le_of_ble_eq_true rfl) ⟨by decide, by decide⟩ dX4_read_24 (fun H locs hG => ?_)
  refine lv_aload_n hx hb dX4_read_27 rfl (lv_at hl 0 rfl) ?_
  obtain ⟨a8, ea8, hf⟩ := zb hf
  refine zr_getR hB hG zF_4 (by decide) kf_X4_14 ea8 dX4_read_28 ?_
  obtain ⟨v9, ev9, hf⟩ := zb hf
  refine zr_getI hB hG zF_0 (by decide) kf_X4_40 ev9 dX4_read_31 ?_
  refine lv_if_ne (tgt := 43) hx hb dX4_read_34 (by decide) (fun hc12 => ?_) (fun hc12 => ?_)
  · rw [if_neg hc12] at hf
    exact w_X4_read_43 hB _ _ _ h7 (x0) hG (lv_sub hl [0] rfl) hf
  · rw [if_pos hc12] at hf
    refine lv_aload_n hx hb dX4_read_37 rfl (lv_at hl 0 rfl) ?_
    refine lv_iconst (v := 3) hx hb dX4_read_38 (by decide) ?_
    refine lv_iconst (v := 0) hx hb dX4_read_39 (by decide) ?_
    obtain ⟨o10, eo10, hf⟩ := zb hf
    obtain ⟨h11, eh11, hf⟩ := zb hf
    refine zr_callVv (As := [.int (3 : Int32), .int (0 : Int32)]) kc_X4_43 hB hG (c_X4_fail eh11) eo10 rfl hl.1 rfl ⟨by decide, by decide⟩ (Nat.le_of_ble_eq_true rfl) ⟨by decide, by decide⟩ dX4_read_40 (fun H locs hG => ?_)
    exact w_X4_read_43 hB _ _ _ h11 (x0) hG (lv_sub hl [0] rfl) hf
end G_X4_read
theorem c_X4_read {l : Launch} {D : va_G} {K : Nat → ClassId} {b0 N : Nat} {h : zh_H} {x0 : Nat} {x1 : Nat} {h2 : zh_H} (hf : b_X4_read_0 h x0 x1 = some h2) : zc l yX4_read cX4_read 3 none 5 0 0 D K b0 N h [.ref x0, .ref x1] (zq none N h2) := by
  refine zc.of [(0, .ref x0), (1, .ref x1)] (by decide) rfl (Nat.le_of_ble_eq_true rfl) ?_
  intro p e s m args below meth c hB hnm hG ls hl
  exact w_X4_read_0 (res := h2) hB _ _ ls h x0 x1 hG (lv_sub hl [0, 1] rfl) hf

section G_X10_pattern
variable {p : Program} {l : Launch} {e : Env} {s : State} {m : MethodId} {args : Array Value} {below : List Frame} {meth : Method} {c : Code} {D : va_G} {K : Nat → ClassId} {b0 N : Nat}
set_option maxRecDepth 100000 in
set_option maxHeartbeats 4000000 in
theorem w_X10_pattern_10 {res : (Int32 × zh_H)} (hB : zc_B p s m args meth c cX10_pattern 2 RX10 (some .int) D K) : ∀ (H : Heap) (locs : List Loc) (ls : Array Slot) (h : zh_H), zh_G D K b0 N h s.heap H locs → lv_has ls 2 [] → b_X10_pattern_10 h  = some res → W p l e (zc_rm 6 0 0) s m args below meth c H locs 0 0 (MQ below (zc_Q D K b0 (zq (some (.int res.1)) N res.2)) args s 0 0 (fun q => b0 ≤ q)) (F0 m 10 ls []) := by
  have hx := hB.1
  have hb := hB.2.1
  intro H locs ls h  hG hl hf
  unfold b_X10_pattern_10 at hf
  refine lv_bipush (v := -2) hx hb dX10_pattern_10 (by decide) ?_
  obtain rfl := Option.some.inj hf
  exact zr_iret hB hG ⟨rfl, rfl, rfl⟩ dX10_pattern_12

set_option maxRecDepth 100000 in
set_option maxHeartbeats 4000000 in
theorem w_X10_pattern_0 {res : (Int32 × zh_H)} (hB : zc_B p s m args meth c cX10_pattern 2 RX10 (some .int) D K) : ∀ (H : Heap) (locs : List Loc) (ls : Array Slot) (h : zh_H) (x0 : Nat) (x1 : Int32), zh_G D K b0 N h s.heap H locs → lv_has ls 2 [(0, .ref x0), (1, .int x1)] → b_X10_pattern_0 h x0 x1 = some res → W p l e (zc_rm 6 0 0) s m args below meth c H locs 0 0 (MQ below (zc_Q D K b0 (zq (some (.int res.1)) N res.2)) args s 0 0 (fun q => b0 ≤ q)) (F0 m 0 ls []) := by
  have hx := hB.1
  have hb := hB.2.1
  intro H locs ls h x0 x1 hG hl hf
  unfold b_X10_pattern_0 at hf
  refine lv_iload_n hx hb dX10_pattern_0 rfl (lv_at hl 1 rfl) ?_
  refine lv_if_lt (tgt := 10) hx hb dX10_pattern_1 (by decide) (fun hc23 => ?_) (fun hc23 => ?_)
  · rw [if_pos hc23] at hf
    exact w_X10_pattern_10 hB _ _ _ h  hG (lv_sub hl [] rfl) hf
  · rw [if_neg hc23] at hf
    refine lv_iload_n hx hb dX10_pattern_4 rfl (lv_at hl 1 rfl) ?_
    refine lv_bipush (v := 8) hx hb dX10_pattern_5 (by decide) ?_
    refine lv_icmp_lt (tgt := 13) hx hb dX10_pattern_7 (by decide) (fun hc22 => ?_) (fun hc22 => ?_)
    · rw [if_pos hc22] at hf
      refine lv_aload_n hx hb dX10_pattern_13 rfl (lv_at hl 0 rfl) ?_
      obtain ⟨a1, ea1, hf⟩ := zb hf
      refine zr_getR hB hG zF_10 (by decide) kf_X10_45 ea1 dX10_pattern_14 ?_
      refine lv_aload_n hx hb dX10_pattern_17 rfl (lv_at hl 0 rfl) ?_
      obtain ⟨a2, ea2, hf⟩ := zb hf
      refine zr_getR hB hG zF_10 (by decide) kf_X10_14 ea2 dX10_pattern_18 ?_
      obtain ⟨o3, eo3, hf⟩ := zb hf
      obtain ⟨h4, eh4, hf⟩ := zb hf
      refine zr_callVv (As := [.ref a2]) kc_X10_92 hB hG (c_X4_read eh4) eo3 rfl hl.1 rfl ⟨by decide, by decide⟩ (Nat.le_of_ble_eq_true rfl) ⟨by decide, by decide⟩ dX10_pattern_21 (fun H locs hG => ?_)
      refine lv_aload_n hx hb dX10_pattern_24 rfl (lv_at hl 0 rfl) ?_
      obtain ⟨a5, ea5, hf⟩ := zb hf
      refine zr_getR hB hG zF_10 (by decide) kf_X10_14 ea5 dX10_pattern_25 ?_
      obtain ⟨o6, eo6, hf⟩ := zb hf
      obtain ⟨h7, eh7, hf⟩ := zb hf
      refine zr_callVv (As := []) kc_X10_96 hB hG (c_X0_clear eh7) eo6 rfl hl.1 rfl ⟨by decide, by decide⟩ (Nat.le_of_ble_eq_true rfl) ⟨by decide, by decide⟩ dX10_pattern_28 (fun H locs hG => ?_)
      refine lv_aload_n hx hb dX10_pattern_31 rfl (lv_at hl 0 rfl) ?_
      obtain ⟨a8, ea8, hf⟩ := zb hf
      refine zr_getR hB hG zF_10 (by decide) kf_X10_45 ea8 dX10_pattern_32 ?_
      obtain ⟨v9, ev9, hf⟩ := zb hf
      refine zr_getI hB hG zF_4 (by decide) kf_X10_99 ev9 dX10_pattern_35 ?_
      refine lv_if_eq (tgt := 52) hx hb dX10_pattern_38 (by decide) (fun hc21 => ?_) (fun hc21 => ?_)
      · rw [if_pos hc21] at hf
        refine lv_aload_n hx hb dX10_pattern_52 rfl (lv_at hl 0 rfl) ?_
        obtain ⟨a10, ea10, hf⟩ := zb hf
        refine zr_getR hB hG zF_10 (by decide) kf_X10_33 ea10 dX10_pattern_53 ?_
        refine lv_iload_n hx hb dX10_pattern_56 rfl (lv_at hl 1 rfl) ?_
        obtain ⟨a11, ea11, hf⟩ := zb hf
        refine zr_aald ⟨_, rfl⟩ hB hG ea11 dX10_pattern_57 ?_
        refine lv_aload_n hx hb dX10_pattern_58 rfl (lv_at hl 0 rfl) ?_
        obtain ⟨a12, ea12, hf⟩ := zb hf
        refine zr_getR hB hG zF_10 (by decide) kf_X10_45 ea12 dX10_pattern_59 ?_
        obtain ⟨a13, ea13, hf⟩ := zb hf
        refine zr_getR hB hG zF_4 (by decide) kf_X10_102 ea13 dX10_pattern_62 ?_
        obtain ⟨o14, eo14, hf⟩ := zb hf
        obtain ⟨h15, eh15, hf⟩ := zb hf
        refine zr_callVv (As := [.ref a13]) kc_X10_105 hB hG (c_X7_copyFrom eh15) eo14 rfl hl.1 rfl ⟨by decide, by decide⟩ (Nat.le_of_ble_eq_true rfl) ⟨by decide, by decide⟩ dX10_pattern_65 (fun H locs hG => ?_)
        refine lv_aload_n hx hb dX10_pattern_68 rfl (lv_at hl 0 rfl) ?_
        obtain ⟨a16, ea16, hf⟩ := zb hf
        refine zr_getR hB hG zF_10 (by decide) kf_X10_33 ea16 dX10_pattern_69 ?_
        refine lv_iload_n hx hb dX10_pattern_72 rfl (lv_at hl 1 rfl) ?_
        obtain ⟨a17, ea17, hf⟩ := zb hf
        refine zr_aald ⟨_, rfl⟩ hB hG ea17 dX10_pattern_73 ?_
        obtain ⟨v18, ev18, hf⟩ := zb hf
        refine zr_getI hB hG zF_7 (by decide) kf_X10_109 ev18 dX10_pattern_74 ?_
        obtain rfl := Option.some.inj hf
        exact zr_iret hB hG ⟨rfl, rfl, rfl⟩ dX10_pattern_77
      · rw [if_neg hc21] at hf
        refine lv_bipush (v := -10) hx hb dX10_pattern_41 (by decide) ?_
        refine lv_aload_n hx hb dX10_pattern_43 rfl (lv_at hl 0 rfl) ?_
        obtain ⟨a19, ea19, hf⟩ := zb hf
        refine zr_getR hB hG zF_10 (by decide) kf_X10_45 ea19 dX10_pattern_44 ?_
        obtain ⟨v20, ev20, hf⟩ := zb hf
        refine zr_getI hB hG zF_4 (by decide) kf_X10_99 ev20 dX10_pattern_47 ?_
        refine lv_isub hx hb dX10_pattern_50 ?_
        obtain rfl := Option.some.inj hf
        exact zr_iret hB hG ⟨rfl, rfl, rfl⟩ dX10_pattern_51
    · rw [if_neg hc22] at hf
      exact w_X10_pattern_10 hB _ _ _ h  hG (lv_sub hl [] rfl) hf
end G_X10_pattern
theorem c_X10_pattern {l : Launch} {D : va_G} {K : Nat → ClassId} {b0 N : Nat} {h : zh_H} {x0 : Nat} {x1 : Int32} {r : Int32} {h2 : zh_H} (hf : b_X10_pattern_0 h x0 x1 = some (r, h2)) : zc l yX10_pattern cX10_pattern 2 (some .int) 6 0 0 D K b0 N h [.ref x0, .int x1] (zq (some (.int r)) N h2) := by
  refine zc.of [(0, .ref x0), (1, .int x1)] (by decide) rfl (Nat.le_of_ble_eq_true rfl) ?_
  intro p e s m args below meth c hB hnm hG ls hl
  exact w_X10_pattern_0 (res := (r, h2)) hB _ _ ls h x0 x1 hG (lv_sub hl [0, 1] rfl) hf

section G_X10_place
variable {p : Program} {l : Launch} {e : Env} {s : State} {m : MethodId} {args : Array Value} {below : List Frame} {meth : Method} {c : Code} {D : va_G} {K : Nat → ClassId} {b0 N : Nat}
set_option maxRecDepth 100000 in
set_option maxHeartbeats 4000000 in
theorem w_X10_place_0 {res : (Int32 × zh_H)} (hB : zc_B p s m args meth c cX10_place 1 RX10 (some .int) D K) : ∀ (H : Heap) (locs : List Loc) (ls : Array Slot) (h : zh_H) (x0 : Nat), zh_G D K b0 N h s.heap H locs → lv_has ls 1 [(0, .ref x0)] → b_X10_place_0 h x0 = some res → W p l e (zc_rm 0 0 0) s m args below meth c H locs 0 0 (MQ below (zc_Q D K b0 (zq (some (.int res.1)) N res.2)) args s 0 0 (fun q => b0 ≤ q)) (F0 m 0 ls []) := by
  have hx := hB.1
  have hb := hB.2.1
  intro H locs ls h x0 hG hl hf
  unfold b_X10_place_0 at hf
  refine lv_aload_n hx hb dX10_place_0 rfl (lv_at hl 0 rfl) ?_
  obtain ⟨a1, ea1, hf⟩ := zb hf
  refine zr_getR hB hG zF_10 (by decide) kf_X10_45 ea1 dX10_place_1 ?_
  obtain ⟨v2, ev2, hf⟩ := zb hf
  refine zr_getI hB hG zF_4 (by decide) kf_X10_110 ev2 dX10_place_4 ?_
  obtain rfl := Option.some.inj hf
  exact zr_iret hB hG ⟨rfl, rfl, rfl⟩ dX10_place_7
end G_X10_place
theorem c_X10_place {l : Launch} {D : va_G} {K : Nat → ClassId} {b0 N : Nat} {h : zh_H} {x0 : Nat} {r : Int32} {h2 : zh_H} (hf : b_X10_place_0 h x0 = some (r, h2)) : zc l yX10_place cX10_place 1 (some .int) 0 0 0 D K b0 N h [.ref x0] (zq (some (.int r)) N h2) := by
  refine zc.of [(0, .ref x0)] (by decide) rfl (Nat.le_of_ble_eq_true rfl) ?_
  intro p e s m args below meth c hB hnm hG ls hl
  exact w_X10_place_0 (res := (r, h2)) hB _ _ ls h x0 hG (lv_sub hl [0] rfl) hf

section G_X10_replace
variable {p : Program} {l : Launch} {e : Env} {s : State} {m : MethodId} {args : Array Value} {below : List Frame} {meth : Method} {c : Code} {D : va_G} {K : Nat → ClassId} {b0 N : Nat}
set_option maxRecDepth 100000 in
set_option maxHeartbeats 4000000 in
theorem w_X10_replace_15 {res : (Int32 × zh_H)} (hB : zc_B p s m args meth c cX10_replace 5 RX10 (some .int) D K) : ∀ (H : Heap) (locs : List Loc) (ls : Array Slot) (h : zh_H), zh_G D K b0 N h s.heap H locs → lv_has ls 5 [] → b_X10_replace_15 h  = some res → W p l e (zc_rm 4 0 0) s m args below meth c H locs 0 0 (MQ below (zc_Q D K b0 (zq (some (.int res.1)) N res.2)) args s 0 0 (fun q => b0 ≤ q)) (F0 m 15 ls []) := by
  have hx := hB.1
  have hb := hB.2.1
  intro H locs ls h  hG hl hf
  unfold b_X10_replace_15 at hf
  refine lv_bipush (v := -2) hx hb dX10_replace_15 (by decide) ?_
  obtain rfl := Option.some.inj hf
  exact zr_iret hB hG ⟨rfl, rfl, rfl⟩ dX10_replace_17

set_option maxRecDepth 100000 in
set_option maxHeartbeats 4000000 in
theorem w_X10_replace_75 {res : (Int32 × zh_H)} (hB : zc_B p s m args meth c cX10_replace 5 RX10 (some .int) D K) : ∀ (H : Heap) (locs : List Loc) (ls : Array Slot) (h : zh_H) (x4 : Int32), zh_G D K b0 N h s.heap H locs → lv_has ls 5 [(4, .int x4)] → b_X10_replace_75 h x4 = some res → W p l e (zc_rm 4 0 0) s m args below meth c H locs 0 0 (MQ below (zc_Q D K b0 (zq (some (.int res.1)) N res.2)) args s 0 0 (fun q => b0 ≤ q)) (F0 m 75 ls []) := by
  have hx := hB.1
  have hb := hB.2.1
  intro H locs ls h x4 hG hl hf
  unfold b_X10_replace_75 at hf
  refine lv_iload hx hb dX10_replace_75 (lv_at hl 0 rfl) ?_
  obtain rfl := Option.some.inj hf
  exact zr_iret hB hG ⟨rfl, rfl, rfl⟩ dX10_replace_77

set_option maxRecDepth 100000 in
set_option maxHeartbeats 4000000 in
theorem w_X10_replace_0 {res : (Int32 × zh_H)} (hB : zc_B p s m args meth c cX10_replace 5 RX10 (some .int) D K) : ∀ (H : Heap) (locs : List Loc) (ls : Array Slot) (h : zh_H) (x0 : Nat) (x1 : Int32) (x2 : Int32) (x3 : Int32), zh_G D K b0 N h s.heap H locs → lv_has ls 5 [(0, .ref x0), (1, .int x1), (2, .int x2), (3, .int x3)] → b_X10_replace_0 h x0 x1 x2 x3 = some res → W p l e (zc_rm 4 0 0) s m args below meth c H locs 0 0 (MQ below (zc_Q D K b0 (zq (some (.int res.1)) N res.2)) args s 0 0 (fun q => b0 ≤ q)) (F0 m 0 ls []) := by
  have hx := hB.1
  have hb := hB.2.1
  intro H locs ls h x0 x1 x2 x3 hG hl hf
  unfold b_X10_replace_0 at hf
  refine lv_aload_n hx hb dX10_replace_0 rfl (lv_at hl 0 rfl) ?_
  refine lv_iload_n hx hb dX10_replace_1 rfl (lv_at hl 1 rfl) ?_
  obtain ⟨o1, eo1, hf⟩ := zb hf
  obtain ⟨v3, h2, eh2, hf⟩ := zbp_s hf
  refine zr_callV (As := [.int x1]) kc_X10_113 hB hG (c_X10_isPattern eh2) eo1 rfl hl.1 rfl ⟨by decide, by decide⟩ (Nat.le_of_ble_eq_true rfl) ⟨by decide, by decide⟩ dX10_replace_2 (fun H locs hG => ?_)
  refine lv_if_eq (tgt := 15) hx hb dX10_replace_5 (by decide) (fun hc27 => ?_) (fun hc27 => ?_)
  · rw [if_pos hc27] at hf
    exact w_X10_replace_15 hB _ _ _ h2  hG (lv_sub hl [] rfl) hf
  · rw [if_neg hc27] at hf
    refine lv_iload_n hx hb dX10_replace_8 rfl (lv_at hl 2 rfl) ?_
    obtain ⟨v5, h4, eh4, hf⟩ := zbp_s hf
    refine zr_callS (As := [.int x2]) kc_X10_142 hB hG (c_X10_isEdits eh4) rfl hl.1 rfl ⟨by decide, by decide⟩ (Nat.le_of_ble_eq_true rfl) ⟨by decide, by decide⟩ dX10_replace_9 (fun H locs hG => ?_)
    refine lv_if_ne (tgt := 18) hx hb dX10_replace_12 (by decide) (fun hc26 => ?_) (fun hc26 => ?_)
    · rw [if_neg hc26] at hf
      refine lv_aload_n hx hb dX10_replace_18 rfl (lv_at hl 0 rfl) ?_
      obtain ⟨a6, ea6, hf⟩ := zb hf
      refine zr_getR hB hG zF_10 (by decide) kf_X10_52 ea6 dX10_replace_19 ?_
      refine lv_aload_n hx hb dX10_replace_22 rfl (lv_at hl 0 rfl) ?_
      obtain ⟨a7, ea7, hf⟩ := zb hf
      refine zr_getR hB hG zF_10 (by decide) kf_X10_33 ea7 dX10_replace_23 ?_
      refine lv_iload_n hx hb dX10_replace_26 rfl (lv_at hl 1 rfl) ?_
      obtain ⟨a8, ea8, hf⟩ := zb hf
      refine zr_aald ⟨_, rfl⟩ hB hG ea8 dX10_replace_27 ?_
      refine lv_iload_n hx hb dX10_replace_28 rfl (lv_at hl 2 rfl) ?_
      refine lv_iload_n hx hb dX10_replace_29 rfl (lv_at hl 3 rfl) ?_
      obtain ⟨o9, eo9, hf⟩ := zb hf
      obtain ⟨h10, eh10, hf⟩ := zb hf
      refine zr_callVv (As := [.ref a8, .int x2, .int x3]) kc_X10_149 hB hG (c_X6_aim eh10) eo9 rfl hl.1 rfl ⟨by decide, by decide⟩ (Nat.le_of_ble_eq_true rfl) ⟨by decide, by decide⟩ dX10_replace_30 (fun H locs hG => ?_)
      refine lv_aload_n hx hb dX10_replace_33 rfl (lv_at hl 0 rfl) ?_
      obtain ⟨o11, eo11, hf⟩ := zb hf
      obtain ⟨v13, h12, eh12, hf⟩ := zbp_s hf
      refine zr_callV (As := []) kc_X10_204 hB hG (c_X10_draftReplaced eh12) eo11 rfl hl.1 rfl ⟨by decide, by decide⟩ (Nat.le_of_ble_eq_true rfl) ⟨by decide, by decide⟩ dX10_replace_34 (fun H locs hG => ?_)
      refine lv_istore (lv' := [(4, .int v13), (0, .ref x0), (1, .int x1), (2, .int x2), (3, .int x3)]) hx hb dX10_replace_37 hl (by decide) rfl (fun ls hl => ?_)
      refine lv_iload hx hb dX10_replace_39 (lv_at hl 0 rfl) ?_
      refine lv_bipush (v := -3) hx hb dX10_replace_41 (by decide) ?_
      refine lv_icmp_eq (tgt := 75) hx hb dX10_replace_43 (by decide) (fun hc25 => ?_) (fun hc25 => ?_)
      · rw [if_pos hc25] at hf
        exact w_X10_replace_75 hB _ _ _ h12 (v13) hG (lv_sub hl [0] rfl) hf
      · rw [if_neg hc25] at hf
        refine lv_aload_n hx hb dX10_replace_46 rfl (lv_at hl 1 rfl) ?_
        obtain ⟨a14, ea14, hf⟩ := zb hf
        refine zr_getR hB hG zF_10 (by decide) kf_X10_27 ea14 dX10_replace_47 ?_
        refine lv_aload_n hx hb dX10_replace_50 rfl (lv_at hl 1 rfl) ?_
        obtain ⟨a15, ea15, hf⟩ := zb hf
        refine zr_getR hB hG zF_10 (by decide) kf_X10_18 ea15 dX10_replace_51 ?_
        obtain ⟨o16, eo16, hf⟩ := zb hf
        obtain ⟨h17, eh17, hf⟩ := zb hf
        refine zr_callVv (As := [.ref a15]) kc_X10_120 hB hG (c_X1_keep eh17) eo16 rfl hl.1 rfl ⟨by decide, by decide⟩ (Nat.le_of_ble_eq_true rfl) ⟨by decide, by decide⟩ dX10_replace_54 (fun H locs hG => ?_)
        refine lv_aload_n hx hb dX10_replace_57 rfl (lv_at hl 1 rfl) ?_
        obtain ⟨a18, ea18, hf⟩ := zb hf
        refine zr_getR hB hG zF_10 (by decide) kf_X10_18 ea18 dX10_replace_58 ?_
        refine lv_aload_n hx hb dX10_replace_61 rfl (lv_at hl 1 rfl) ?_
        obtain ⟨a19, ea19, hf⟩ := zb hf
        refine zr_getR hB hG zF_10 (by decide) kf_X10_21 ea19 dX10_replace_62 ?_
        obtain ⟨o20, eo20, hf⟩ := zb hf
        obtain ⟨h21, eh21, hf⟩ := zb hf
        refine zr_callVv (As := [.ref a19]) kc_X10_207 hB hG (c_X0_copyFrom eh21) eo20 rfl hl.1 rfl ⟨by decide, by decide⟩ (Nat.le_of_ble_eq_true rfl) ⟨by decide, by decide⟩ dX10_replace_65 (fun H locs hG => ?_)
        refine lv_aload_n hx hb dX10_replace_68 rfl (lv_at hl 1 rfl) ?_
        obtain ⟨a22, ea22, hf⟩ := zb hf
        refine zr_getR hB hG zF_10 (by decide) kf_X10_14 ea22 dX10_replace_69 ?_
        obtain ⟨o23, eo23, hf⟩ := zb hf
        obtain ⟨h24, eh24, hf⟩ := zb hf
        refine zr_callVv (As := []) kc_X10_96 hB hG (c_X0_clear eh24) eo23 rfl hl.1 rfl ⟨by decide, by decide⟩ (Nat.le_of_ble_eq_true rfl) ⟨by decide, by decide⟩ dX10_replace_72 (fun H locs hG => ?_)
        exact w_X10_replace_75 hB _ _ _ h24 (v13) hG (lv_sub hl [0] rfl) hf
    · rw [if_pos hc26] at hf
      exact w_X10_replace_15 hB _ _ _ h4  hG (lv_sub hl [] rfl) hf
end G_X10_replace
theorem c_X10_replace {l : Launch} {D : va_G} {K : Nat → ClassId} {b0 N : Nat} {h : zh_H} {x0 : Nat} {x1 : Int32} {x2 : Int32} {x3 : Int32} {r : Int32} {h2 : zh_H} (hf : b_X10_replace_0 h x0 x1 x2 x3 = some (r, h2)) : zc l yX10_replace cX10_replace 5 (some .int) 4 0 0 D K b0 N h [.ref x0, .int x1, .int x2, .int x3] (zq (some (.int r)) N h2) := by
  refine zc.of [(0, .ref x0), (1, .int x1), (2, .int x2), (3, .int x3)] (by decide) rfl (Nat.le_of_ble_eq_true rfl) ?_
  intro p e s m args below meth c hB hnm hG ls hl
  exact w_X10_replace_0 (res := (r, h2)) hB _ _ ls h x0 x1 x2 x3 hG (lv_sub hl [0, 1, 2, 3] rfl) hf

section G_X9_get
variable {p : Program} {l : Launch} {e : Env} {s : State} {m : MethodId} {args : Array Value} {below : List Frame} {meth : Method} {c : Code} {D : va_G} {K : Nat → ClassId} {b0 N : Nat}
set_option maxRecDepth 100000 in
set_option maxHeartbeats 4000000 in
theorem w_X9_get_29 {res : (Int32 × zh_H)} (hB : zc_B p s m args meth c cX9_get 2 RX9 (some .int) D K) : ∀ (H : Heap) (locs : List Loc) (ls : Array Slot) (h : zh_H) (y0 : Int32), zh_G D K b0 N h s.heap H locs → lv_has ls 2 [] → b_X9_get_29 h y0 = some res → W p l e (zc_rm 0 0 0) s m args below meth c H locs 0 0 (MQ below (zc_Q D K b0 (zq (some (.int res.1)) N res.2)) args s 0 0 (fun q => b0 ≤ q)) (F0 m 29 ls [.int y0]) := by
  have hx := hB.1
  have hb := hB.2.1
  intro H locs ls h y0 hG hl hf
  unfold b_X9_get_29 at hf
  obtain rfl := Option.some.inj hf
  exact zr_iret hB hG ⟨rfl, rfl, rfl⟩ dX9_get_29

set_option maxRecDepth 100000 in
set_option maxHeartbeats 4000000 in
theorem w_X9_get_28 {res : (Int32 × zh_H)} (hB : zc_B p s m args meth c cX9_get 2 RX9 (some .int) D K) : ∀ (H : Heap) (locs : List Loc) (ls : Array Slot) (h : zh_H), zh_G D K b0 N h s.heap H locs → lv_has ls 2 [] → b_X9_get_28 h  = some res → W p l e (zc_rm 0 0 0) s m args below meth c H locs 0 0 (MQ below (zc_Q D K b0 (zq (some (.int res.1)) N res.2)) args s 0 0 (fun q => b0 ≤ q)) (F0 m 28 ls []) := by
  have hx := hB.1
  have hb := hB.2.1
  intro H locs ls h  hG hl hf
  unfold b_X9_get_28 at hf
  refine lv_iconst (v := -1) hx hb dX9_get_28 (by decide) ?_
  exact w_X9_get_29 hB _ _ _ h ((-1 : Int32)) hG (lv_sub hl [] rfl) hf

set_option maxRecDepth 100000 in
set_option maxHeartbeats 4000000 in
theorem w_X9_get_0 {res : (Int32 × zh_H)} (hB : zc_B p s m args meth c cX9_get 2 RX9 (some .int) D K) : ∀ (H : Heap) (locs : List Loc) (ls : Array Slot) (h : zh_H) (x0 : Nat) (x1 : Int32), zh_G D K b0 N h s.heap H locs → lv_has ls 2 [(0, .ref x0), (1, .int x1)] → b_X9_get_0 h x0 x1 = some res → W p l e (zc_rm 0 0 0) s m args below meth c H locs 0 0 (MQ below (zc_Q D K b0 (zq (some (.int res.1)) N res.2)) args s 0 0 (fun q => b0 ≤ q)) (F0 m 0 ls []) := by
  have hx := hB.1
  have hb := hB.2.1
  intro H locs ls h x0 x1 hG hl hf
  unfold b_X9_get_0 at hf
  refine lv_iload_n hx hb dX9_get_0 rfl (lv_at hl 1 rfl) ?_
  refine lv_if_lt (tgt := 28) hx hb dX9_get_1 (by decide) (fun hc6 => ?_) (fun hc6 => ?_)
  · rw [if_pos hc6] at hf
    exact w_X9_get_28 hB _ _ _ h  hG (lv_sub hl [] rfl) hf
  · rw [if_neg hc6] at hf
    refine lv_iload_n hx hb dX9_get_4 rfl (lv_at hl 1 rfl) ?_
    refine lv_aload_n hx hb dX9_get_5 rfl (lv_at hl 0 rfl) ?_
    obtain ⟨v1, ev1, hf⟩ := zb hf
    refine zr_getI hB hG zF_9 (by decide) kf_X9_15 ev1 dX9_get_6 ?_
    refine lv_icmp_ge (tgt := 28) hx hb dX9_get_9 (by decide) (fun hc5 => ?_) (fun hc5 => ?_)
    · rw [if_pos hc5] at hf
      exact w_X9_get_28 hB _ _ _ h  hG (lv_sub hl [] rfl) hf
    · rw [if_neg hc5] at hf
      refine lv_aload_n hx hb dX9_get_12 rfl (lv_at hl 0 rfl) ?_
      obtain ⟨a2, ea2, hf⟩ := zb hf
      refine zr_getR hB hG zF_9 (by decide) kf_X9_9 ea2 dX9_get_13 ?_
      refine lv_aload_n hx hb dX9_get_16 rfl (lv_at hl 0 rfl) ?_
      obtain ⟨v3, ev3, hf⟩ := zb hf
      refine zr_getI hB hG zF_9 (by decide) kf_X9_15 ev3 dX9_get_17 ?_
      refine lv_iconst (v := 1) hx hb dX9_get_20 (by decide) ?_
      refine lv_isub hx hb dX9_get_21 ?_
      refine lv_iload_n hx hb dX9_get_22 rfl (lv_at hl 1 rfl) ?_
      refine lv_isub hx hb dX9_get_23 ?_
      obtain ⟨v4, ev4, hf⟩ := zb hf
      refine zr_bald hB hG ev4 dX9_get_24 ?_
      refine lv_goto (tgt := 29) hx hb dX9_get_25 (by decide) ?_
      exact w_X9_get_29 hB _ _ _ h (v4) hG (lv_sub hl [] rfl) hf
end G_X9_get
theorem c_X9_get {l : Launch} {D : va_G} {K : Nat → ClassId} {b0 N : Nat} {h : zh_H} {x0 : Nat} {x1 : Int32} {r : Int32} {h2 : zh_H} (hf : b_X9_get_0 h x0 x1 = some (r, h2)) : zc l yX9_get cX9_get 2 (some .int) 0 0 0 D K b0 N h [.ref x0, .int x1] (zq (some (.int r)) N h2) := by
  refine zc.of [(0, .ref x0), (1, .int x1)] (by decide) rfl (Nat.le_of_ble_eq_true rfl) ?_
  intro p e s m args below meth c hB hnm hG ls hl
  exact w_X9_get_0 (res := (r, h2)) hB _ _ ls h x0 x1 hG (lv_sub hl [0, 1] rfl) hf

section G_X10_step
variable {p : Program} {l : Launch} {e : Env} {s : State} {m : MethodId} {args : Array Value} {below : List Frame} {meth : Method} {c : Code} {D : va_G} {K : Nat → ClassId} {b0 N : Nat}
set_option maxRecDepth 100000 in
set_option maxHeartbeats 4000000 in
theorem w_X10_step_15 {res : (Int32 × zh_H)} (hB : zc_B p s m args meth c cX10_step 3 RX10 (some .int) D K) : ∀ (H : Heap) (locs : List Loc) (ls : Array Slot) (h : zh_H), zh_G D K b0 N h s.heap H locs → lv_has ls 3 [] → b_X10_step_15 h  = some res → W p l e (zc_rm 7 0 0) s m args below meth c H locs 0 0 (MQ below (zc_Q D K b0 (zq (some (.int res.1)) N res.2)) args s 0 0 (fun q => b0 ≤ q)) (F0 m 15 ls []) := by
  have hx := hB.1
  have hb := hB.2.1
  intro H locs ls h  hG hl hf
  unfold b_X10_step_15 at hf
  refine lv_bipush (v := -2) hx hb dX10_step_15 (by decide) ?_
  obtain rfl := Option.some.inj hf
  exact zr_iret hB hG ⟨rfl, rfl, rfl⟩ dX10_step_17

set_option maxRecDepth 100000 in
set_option maxHeartbeats 4000000 in
theorem w_X10_step_0 {res : (Int32 × zh_H)} (hB : zc_B p s m args meth c cX10_step 3 RX10 (some .int) D K) : ∀ (H : Heap) (locs : List Loc) (ls : Array Slot) (h : zh_H) (x0 : Nat) (x1 : Int32) (x2 : Int32), zh_G D K b0 N h s.heap H locs → lv_has ls 3 [(0, .ref x0), (1, .int x1), (2, .int x2)] → b_X10_step_0 h x0 x1 x2 = some res → W p l e (zc_rm 7 0 0) s m args below meth c H locs 0 0 (MQ below (zc_Q D K b0 (zq (some (.int res.1)) N res.2)) args s 0 0 (fun q => b0 ≤ q)) (F0 m 0 ls []) := by
  have hx := hB.1
  have hb := hB.2.1
  intro H locs ls h x0 x1 x2 hG hl hf
  unfold b_X10_step_0 at hf
  refine lv_iload_n hx hb dX10_step_0 rfl (lv_at hl 1 rfl) ?_
  refine lv_if_lt (tgt := 15) hx hb dX10_step_1 (by decide) (fun hc13 => ?_) (fun hc13 => ?_)
  · rw [if_pos hc13] at hf
    exact w_X10_step_15 hB _ _ _ h  hG (lv_sub hl [] rfl) hf
  · rw [if_neg hc13] at hf
    refine lv_iload_n hx hb dX10_step_4 rfl (lv_at hl 1 rfl) ?_
    refine lv_aload_n hx hb dX10_step_5 rfl (lv_at hl 0 rfl) ?_
    obtain ⟨a1, ea1, hf⟩ := zb hf
    refine zr_getR hB hG zF_10 (by decide) kf_X10_66 ea1 dX10_step_6 ?_
    obtain ⟨v2, ev2, hf⟩ := zb hf
    refine zr_getI hB hG zF_2 (by decide) kf_X10_173 ev2 dX10_step_9 ?_
    refine lv_icmp_lt (tgt := 18) hx hb dX10_step_12 (by decide) (fun hc12 => ?_) (fun hc12 => ?_)
    · rw [if_pos hc12] at hf
      refine lv_aload_n hx hb dX10_step_18 rfl (lv_at hl 0 rfl) ?_
      obtain ⟨a3, ea3, hf⟩ := zb hf
      refine zr_getR hB hG zF_10 (by decide) kf_X10_66 ea3 dX10_step_19 ?_
      refine lv_iload_n hx hb dX10_step_22 rfl (lv_at hl 1 rfl) ?_
      refine lv_aload_n hx hb dX10_step_23 rfl (lv_at hl 0 rfl) ?_
      obtain ⟨a4, ea4, hf⟩ := zb hf
      refine zr_getR hB hG zF_10 (by decide) kf_X10_59 ea4 dX10_step_24 ?_
      obtain ⟨o5, eo5, hf⟩ := zb hf
      obtain ⟨h6, eh6, hf⟩ := zb hf
      refine zr_callVv (As := [.int x1, .ref a4]) kc_X10_185 hB hG (c_X2_trace eh6) eo5 rfl hl.1 rfl ⟨by decide, by decide⟩ (Nat.le_of_ble_eq_true rfl) ⟨by decide, by decide⟩ dX10_step_27 (fun H locs hG => ?_)
      refine lv_aload_n hx hb dX10_step_30 rfl (lv_at hl 0 rfl) ?_
      obtain ⟨a7, ea7, hf⟩ := zb hf
      refine zr_getR hB hG zF_10 (by decide) kf_X10_66 ea7 dX10_step_31 ?_
      obtain ⟨a8, ea8, hf⟩ := zb hf
      refine zr_getR hB hG zF_2 (by decide) kf_X10_189 ea8 dX10_step_34 ?_
      refine lv_iload_n hx hb dX10_step_37 rfl (lv_at hl 2 rfl) ?_
      obtain ⟨o9, eo9, hf⟩ := zb hf
      obtain ⟨v11, h10, eh10, hf⟩ := zbp_s hf
      refine zr_callV (As := [.int x2]) kc_X10_196 hB hG (c_X9_get eh10) eo9 rfl hl.1 rfl ⟨by decide, by decide⟩ (Nat.le_of_ble_eq_true rfl) ⟨by decide, by decide⟩ dX10_step_38 (fun H locs hG => ?_)
      obtain rfl := Option.some.inj hf
      exact zr_iret hB hG ⟨rfl, rfl, rfl⟩ dX10_step_41
    · rw [if_neg hc12] at hf
      exact w_X10_step_15 hB _ _ _ h  hG (lv_sub hl [] rfl) hf
end G_X10_step
theorem c_X10_step {l : Launch} {D : va_G} {K : Nat → ClassId} {b0 N : Nat} {h : zh_H} {x0 : Nat} {x1 : Int32} {x2 : Int32} {r : Int32} {h2 : zh_H} (hf : b_X10_step_0 h x0 x1 x2 = some (r, h2)) : zc l yX10_step cX10_step 3 (some .int) 7 0 0 D K b0 N h [.ref x0, .int x1, .int x2] (zq (some (.int r)) N h2) := by
  refine zc.of [(0, .ref x0), (1, .int x1), (2, .int x2)] (by decide) rfl (Nat.le_of_ble_eq_true rfl) ?_
  intro p e s m args below meth c hB hnm hG ls hl
  exact w_X10_step_0 (res := (r, h2)) hB _ _ ls h x0 x1 x2 hG (lv_sub hl [0, 1, 2] rfl) hf

section G_X10_type
variable {p : Program} {l : Launch} {e : Env} {s : State} {m : MethodId} {args : Array Value} {below : List Frame} {meth : Method} {c : Code} {D : va_G} {K : Nat → ClassId} {b0 N : Nat}
set_option maxRecDepth 100000 in
set_option maxHeartbeats 4000000 in
theorem w_X10_type_11 {res : (Int32 × zh_H)} (hB : zc_B p s m args meth c cX10_type 5 RX10 (some .int) D K) : ∀ (H : Heap) (locs : List Loc) (ls : Array Slot) (h : zh_H), zh_G D K b0 N h s.heap H locs → lv_has ls 5 [] → b_X10_type_11 h  = some res → W p l e (zc_rm 1 0 0) s m args below meth c H locs 0 0 (MQ below (zc_Q D K b0 (zq (some (.int res.1)) N res.2)) args s 0 0 (fun q => b0 ≤ q)) (F0 m 11 ls []) := by
  have hx := hB.1
  have hb := hB.2.1
  intro H locs ls h  hG hl hf
  unfold b_X10_type_11 at hf
  refine lv_bipush (v := -2) hx hb dX10_type_11 (by decide) ?_
  obtain rfl := Option.some.inj hf
  exact zr_iret hB hG ⟨rfl, rfl, rfl⟩ dX10_type_13

set_option maxRecDepth 100000 in
set_option maxHeartbeats 4000000 in
theorem w_X10_type_65 {res : (Int32 × zh_H)} (hB : zc_B p s m args meth c cX10_type 5 RX10 (some .int) D K) : ∀ n : Nat, ∀ (H : Heap) (locs : List Loc) (ls : Array Slot) (h : zh_H) (x0 : Nat) (x1 : Int64) (x3 : Int32) (x4 : Int32), zh_G D K b0 N h s.heap H locs → lv_has ls 5 [(0, .ref x0), (1, .long x1), (3, .int x3), (4, .int x4)] → b_X10_type_65 n h x0 x1 x3 x4 = some res → W p l e (zc_rm 1 0 0) s m args below meth c H locs 0 0 (MQ below (zc_Q D K b0 (zq (some (.int res.1)) N res.2)) args s 0 0 (fun q => b0 ≤ q)) (F0 m 65 ls []) := by
  have hx := hB.1
  have hb := hB.2.1
  intro n
  induction n with
  | zero =>
    intro H locs ls h x0 x1 x3 x4 hG hl hf
    cases hf
  | succ n ih =>
    intro H locs ls h x0 x1 x3 x4 hG hl hf
    unfold b_X10_type_65 at hf
    refine lv_iload hx hb dX10_type_65 (lv_at hl 3 rfl) ?_
    refine lv_iload_n hx hb dX10_type_67 rfl (lv_at hl 2 rfl) ?_
    refine lv_icmp_ge (tgt := 90) hx hb dX10_type_68 (by decide) (fun hc8 => ?_) (fun hc8 => ?_)
    · rw [if_pos hc8] at hf
      refine lv_aload_n hx hb dX10_type_90 rfl (lv_at hl 0 rfl) ?_
      obtain ⟨a1, ea1, hf⟩ := zb hf
      refine zr_getR hB hG zF_10 (by decide) kf_X10_14 ea1 dX10_type_91 ?_
      obtain ⟨v2, ev2, hf⟩ := zb hf
      refine zr_getI hB hG zF_0 (by decide) kf_X10_85 ev2 dX10_type_94 ?_
      obtain rfl := Option.some.inj hf
      exact zr_iret hB hG ⟨rfl, rfl, rfl⟩ dX10_type_97
    · rw [if_neg hc8] at hf
      refine lv_aload_n hx hb dX10_type_71 rfl (lv_at hl 0 rfl) ?_
      obtain ⟨a3, ea3, hf⟩ := zb hf
      refine zr_getR hB hG zF_10 (by decide) kf_X10_14 ea3 dX10_type_72 ?_
      refine lv_lload_n hx hb dX10_type_75 rfl (lv_at hl 1 rfl) ?_
      refine lv_iload hx hb dX10_type_76 (lv_at hl 3 rfl) ?_
      obtain ⟨v5, h4, eh4, hf⟩ := zbp_s hf
      refine zr_callS (As := [.long x1, .int x4]) kc_X10_77 hB hG (c_X10_byteOfWord eh4) rfl hl.1 rfl ⟨by decide, by decide⟩ (Nat.le_of_ble_eq_true rfl) ⟨by decide, by decide⟩ dX10_type_78 (fun H locs hG => ?_)
      obtain ⟨o6, eo6, hf⟩ := zb hf
      obtain ⟨h7, eh7, hf⟩ := zb hf
      refine zr_callVv (As := [.int v5]) kc_X10_89 hB hG (c_X0_add eh7) eo6 rfl hl.1 rfl ⟨by decide, by decide⟩ (Nat.le_of_ble_eq_true rfl) ⟨by decide, by decide⟩ dX10_type_81 (fun H locs hG => ?_)
      refine lv_iinc (v := (x4 + (1 : Int32))) (lv' := [(4, .int (x4 + (1 : Int32))), (0, .ref x0), (1, .long x1), (3, .int x3)]) hx hb dX10_type_84 hl (k := 3) rfl rfl (by decide) rfl (fun ls hl => ?_)
      refine lv_goto (tgt := 65) hx hb dX10_type_87 (by decide) ?_
      exact ih _ _ _ h7 (x0) (x1) (x3) ((x4 + (1 : Int32))) hG (lv_sub hl [1, 2, 3, 0] rfl) hf

set_option maxRecDepth 100000 in
set_option maxHeartbeats 4000000 in
theorem w_X10_type_17 {res : (Int32 × zh_H)} (hB : zc_B p s m args meth c cX10_type 5 RX10 (some .int) D K) : ∀ n : Nat, ∀ (H : Heap) (locs : List Loc) (ls : Array Slot) (h : zh_H) (x0 : Nat) (x1 : Int64) (x3 : Int32) (x4 : Int32), zh_G D K b0 N h s.heap H locs → lv_has ls 5 [(0, .ref x0), (1, .long x1), (3, .int x3), (4, .int x4)] → b_X10_type_17 n h x0 x1 x3 x4 = some res → W p l e (zc_rm 1 0 0) s m args below meth c H locs 0 0 (MQ below (zc_Q D K b0 (zq (some (.int res.1)) N res.2)) args s 0 0 (fun q => b0 ≤ q)) (F0 m 17 ls []) := by
  have hx := hB.1
  have hb := hB.2.1
  intro n
  induction n with
  | zero =>
    intro H locs ls h x0 x1 x3 x4 hG hl hf
    cases hf
  | succ n ih =>
    intro H locs ls h x0 x1 x3 x4 hG hl hf
    unfold b_X10_type_17 at hf
    refine lv_iload hx hb dX10_type_17 (lv_at hl 3 rfl) ?_
    refine lv_iload_n hx hb dX10_type_19 rfl (lv_at hl 2 rfl) ?_
    refine lv_icmp_ge (tgt := 44) hx hb dX10_type_20 (by decide) (fun hc9 => ?_) (fun hc9 => ?_)
    · rw [if_pos hc9] at hf
      refine lv_aload_n hx hb dX10_type_44 rfl (lv_at hl 0 rfl) ?_
      obtain ⟨a1, ea1, hf⟩ := zb hf
      refine zr_getR hB hG zF_10 (by decide) kf_X10_14 ea1 dX10_type_45 ?_
      obtain ⟨v2, ev2, hf⟩ := zb hf
      refine zr_getI hB hG zF_0 (by decide) kf_X10_85 ev2 dX10_type_48 ?_
      refine lv_iload_n hx hb dX10_type_51 rfl (lv_at hl 2 rfl) ?_
      refine lv_iadd hx hb dX10_type_52 ?_
      refine lv_sipush (v := 400) hx hb dX10_type_53 (by decide) ?_
      refine lv_icmp_le (tgt := 62) hx hb dX10_type_56 (by decide) (fun hc3 => ?_) (fun hc3 => ?_)
      · rw [if_pos hc3] at hf
        refine lv_iconst (v := 0) hx hb dX10_type_62 (by decide) ?_
        refine lv_istore (lv' := [(4, .int (0 : Int32)), (0, .ref x0), (1, .long x1), (3, .int x3)]) hx hb dX10_type_63 hl (by decide) rfl (fun ls hl => ?_)
        exact w_X10_type_65 hB zFuel _ _ _ h (x0) (x1) (x3) ((0 : Int32)) hG (lv_sub hl [1, 2, 3, 0] rfl) hf
      · rw [if_neg hc3] at hf
        refine lv_bipush (v := -3) hx hb dX10_type_59 (by decide) ?_
        obtain rfl := Option.some.inj hf
        exact zr_iret hB hG ⟨rfl, rfl, rfl⟩ dX10_type_61
    · rw [if_neg hc9] at hf
      refine lv_lload_n hx hb dX10_type_23 rfl (lv_at hl 1 rfl) ?_
      refine lv_iload hx hb dX10_type_24 (lv_at hl 3 rfl) ?_
      obtain ⟨v5, h4, eh4, hf⟩ := zbp_s hf
      refine zr_callS (As := [.long x1, .int x4]) kc_X10_77 hB hG (c_X10_byteOfWord eh4) rfl hl.1 rfl ⟨by decide, by decide⟩ (Nat.le_of_ble_eq_true rfl) ⟨by decide, by decide⟩ dX10_type_26 (fun H locs hG => ?_)
      obtain ⟨v7, h6, eh6, hf⟩ := zbp_s hf
      refine zr_callS (As := [.int v5]) kc_X10_81 hB hG (c_X10_isByte eh6) rfl hl.1 rfl ⟨by decide, by decide⟩ (Nat.le_of_ble_eq_true rfl) ⟨by decide, by decide⟩ dX10_type_29 (fun H locs hG => ?_)
      refine lv_if_ne (tgt := 38) hx hb dX10_type_32 (by decide) (fun hc8 => ?_) (fun hc8 => ?_)
      · rw [if_neg hc8] at hf
        refine lv_iinc (v := (x4 + (1 : Int32))) (lv' := [(4, .int (x4 + (1 : Int32))), (0, .ref x0), (1, .long x1), (3, .int x3)]) hx hb dX10_type_38 hl (k := 3) rfl rfl (by decide) rfl (fun ls hl => ?_)
        refine lv_goto (tgt := 17) hx hb dX10_type_41 (by decide) ?_
        exact ih _ _ _ h6 (x0) (x1) (x3) ((x4 + (1 : Int32))) hG (lv_sub hl [1, 2, 3, 0] rfl) hf
      · rw [if_pos hc8] at hf
        refine lv_bipush (v := -2) hx hb dX10_type_35 (by decide) ?_
        obtain rfl := Option.some.inj hf
        exact zr_iret hB hG ⟨rfl, rfl, rfl⟩ dX10_type_37

set_option maxRecDepth 100000 in
set_option maxHeartbeats 4000000 in
theorem w_X10_type_0 {res : (Int32 × zh_H)} (hB : zc_B p s m args meth c cX10_type 5 RX10 (some .int) D K) : ∀ (H : Heap) (locs : List Loc) (ls : Array Slot) (h : zh_H) (x0 : Nat) (x1 : Int64) (x3 : Int32), zh_G D K b0 N h s.heap H locs → lv_has ls 5 [(0, .ref x0), (1, .long x1), (3, .int x3)] → b_X10_type_0 h x0 x1 x3 = some res → W p l e (zc_rm 1 0 0) s m args below meth c H locs 0 0 (MQ below (zc_Q D K b0 (zq (some (.int res.1)) N res.2)) args s 0 0 (fun q => b0 ≤ q)) (F0 m 0 ls []) := by
  have hx := hB.1
  have hb := hB.2.1
  intro H locs ls h x0 x1 x3 hG hl hf
  unfold b_X10_type_0 at hf
  refine lv_iload_n hx hb dX10_type_0 rfl (lv_at hl 2 rfl) ?_
  refine lv_iconst (v := 1) hx hb dX10_type_1 (by decide) ?_
  refine lv_icmp_lt (tgt := 11) hx hb dX10_type_2 (by decide) (fun hc2 => ?_) (fun hc2 => ?_)
  · rw [if_pos hc2] at hf
    exact w_X10_type_11 hB _ _ _ h  hG (lv_sub hl [] rfl) hf
  · rw [if_neg hc2] at hf
    refine lv_iload_n hx hb dX10_type_5 rfl (lv_at hl 2 rfl) ?_
    refine lv_bipush (v := 8) hx hb dX10_type_6 (by decide) ?_
    refine lv_icmp_le (tgt := 14) hx hb dX10_type_8 (by decide) (fun hc1 => ?_) (fun hc1 => ?_)
    · rw [if_pos hc1] at hf
      refine lv_iconst (v := 0) hx hb dX10_type_14 (by decide) ?_
      refine lv_istore (lv' := [(4, .int (0 : Int32)), (0, .ref x0), (1, .long x1), (3, .int x3)]) hx hb dX10_type_15 hl (by decide) rfl (fun ls hl => ?_)
      exact w_X10_type_17 hB zFuel _ _ _ h (x0) (x1) (x3) ((0 : Int32)) hG (lv_sub hl [1, 2, 3, 0] rfl) hf
    · rw [if_neg hc1] at hf
      exact w_X10_type_11 hB _ _ _ h  hG (lv_sub hl [] rfl) hf
end G_X10_type
theorem c_X10_type {l : Launch} {D : va_G} {K : Nat → ClassId} {b0 N : Nat} {h : zh_H} {x0 : Nat} {x1 : Int64} {x3 : Int32} {r : Int32} {h2 : zh_H} (hf : b_X10_type_0 h x0 x1 x3 = some (r, h2)) : zc l yX10_type cX10_type 5 (some .int) 1 0 0 D K b0 N h [.ref x0, .long x1, .int x3] (zq (some (.int r)) N h2) := by
  refine zc.of [(0, .ref x0), (1, .long x1), (3, .int x3)] (by decide) rfl (Nat.le_of_ble_eq_true rfl) ?_
  intro p e s m args below meth c hB hnm hG ls hl
  exact w_X10_type_0 (res := (r, h2)) hB _ _ ls h x0 x1 x3 hG (lv_sub hl [0, 1, 2] rfl) hf

