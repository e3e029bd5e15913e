section G_X9_init
variable {p : Program} {l : Launch} {e : Env} {s : State} {m : MethodId} {args : Array Value} {below : List Frame} {meth : Method} {c : Code} {D : va_G} {K : Nat → ClassId} {b0 zz : Nat}
set_option maxRecDepth 100000 in
set_option maxHeartbeats 4000000 in
theorem w_X9_init_0 {res : (Nat × zh_H)} (hB : zc_B p s m args meth c cX9_init 1 RX9 none D K) (hnm : meth.name = "<init>") : ∀ (H : Heap) (locs : List Loc) (ls : Array Slot) (N cs sl : Nat) (h : zh_H) (x0 : Nat), zh_G D K b0 N h s.heap H locs → lv_has ls 1 [(0, .ref x0)] → b_X9_init_0 N cs sl h x0 = some res → W p l e (zc_rm 1 1 400) s m args below meth c H locs cs sl (MQ below (zc_Q D K b0 (zq none res.1 res.2)) args s 1 400 (fun q => b0 ≤ q)) (F0 m 0 ls []) := by
  have hx := hB.1
  have hb := hB.2.1
  intro H locs ls N cs sl h x0 hG hl hf
  unfold b_X9_init_0 at hf
  refine lv_aload_n hx hb dX9_init_0 rfl (lv_at hl 0 rfl) ?_
  refine zr_oinit km_X9_3 k_oi k_oc hl.1 hB dX9_init_1 (by decide) (Nat.le_of_ble_eq_true rfl) ?_
  refine lv_aload_n hx hb dX9_init_4 rfl (lv_at hl 0 rfl) ?_
  refine lv_sipush (v := 400) hx hb dX9_init_5 (by decide) ?_
  obtain ⟨hz, hf⟩ := zif_s hf
  refine zr_newa (t := 0) (atype := .byte) (a0 := ((Int32.toNatClampNeg (400 : Int32)), .inl (fun _ => 0))) ka_0 rfl rfl hB hG (fun _ => rfl) (zh_ok_b fun _ => rfl) hz.1 hz.2 dX9_init_8 (fun H hG => ?_)
  obtain ⟨h1, eh1, hf⟩ := zb hf
  refine zr_putF hB hG zF_9 (by decide) kf_X9_9 rfl hnm rfl rfl rfl eh1 dX9_init_10 (fun H locs hG => ?_)
  obtain ⟨hz, hf⟩ := zif_s hf
  obtain rfl := Option.some.inj hf
  refine W.widen (k := 1) (n := 400) hz.1 hz.2 ?_
  exact zr_vret hB hG ⟨rfl, rfl, rfl⟩ dX9_init_13
end G_X9_init
theorem c_X9_init {l : Launch} {D : va_G} {K : Nat → ClassId} {b0 N N2 : Nat} {h h2 : zh_H} {x0 : Nat} (hf : b_X9_init_0 N 0 0 h x0 = some (N2, h2)) : zc l yX9_init cX9_init 1 none 1 1 400 D K b0 N h [.ref x0] (zq none N2 h2) := by
  refine zc.of [(0, .ref x0)] (by decide) rfl (Nat.le_of_ble_eq_true rfl) ?_
  intro p e s m args below meth c hB hnm hG ls hl
  exact w_X9_init_0 (res := (N2, h2)) hB hnm _ _ ls N 0 0 h x0 hG (lv_sub hl [0] rfl) hf

section G_X2_init
variable {p : Program} {l : Launch} {e : Env} {s : State} {m : MethodId} {args : Array Value} {below : List Frame} {meth : Method} {c : Code} {D : va_G} {K : Nat → ClassId} {b0 zz : Nat}
set_option maxRecDepth 100000 in
set_option maxHeartbeats 4000000 in
theorem w_X2_init_0 {res : (Nat × zh_H)} (hB : zc_B p s m args meth c cX2_init 1 RX2 none D K) (hnm : meth.name = "<init>") : ∀ (H : Heap) (locs : List Loc) (ls : Array Slot) (N cs sl : Nat) (h : zh_H) (x0 : Nat), zh_G D K b0 N h s.heap H locs → lv_has ls 1 [(0, .ref x0)] → b_X2_init_0 N cs sl h x0 = some res → W p l e (zc_rm 2 10 9407) s m args below meth c H locs cs sl (MQ below (zc_Q D K b0 (zq none res.1 res.2)) args s 10 9407 (fun q => b0 ≤ q)) (F0 m 0 ls []) := by
  have hx := hB.1
  have hb := hB.2.1
  intro H locs ls N cs sl h x0 hG hl hf
  unfold b_X2_init_0 at hf
  refine lv_aload_n hx hb dX2_init_0 rfl (lv_at hl 0 rfl) ?_
  refine zr_oinit km_X2_3 k_oi k_oc hl.1 hB dX2_init_1 (by decide) (Nat.le_of_ble_eq_true rfl) ?_
  refine lv_aload_n hx hb dX2_init_4 rfl (lv_at hl 0 rfl) ?_
  obtain ⟨hz, hf⟩ := zif_s hf
  refine zr_new (fs := [.null, .int 0]) hB hG zF_0 kq_X2_9 ki_0 kn_0 (by decide) hz dX2_init_5 (fun H hG => ?_)
  refine lv_dup hx hb dX2_init_8 rfl ?_
  refine lv_sipush (v := 1500) hx hb dX2_init_9 (by decide) ?_
  obtain ⟨hz, hf⟩ := zif_s hf
  obtain ⟨N2, h3, eh3, hf⟩ := zbp_s hf
  refine zr_callI (As := [.int (1500 : Int32)]) kc_X2_11 hB hG (c_X0_init eh3) rfl hl.1 rfl ⟨by decide, by decide⟩ (Nat.le_of_ble_eq_true rfl) hz dX2_init_12 (fun H locs hG => ?_)
  obtain ⟨h4, eh4, hf⟩ := zb hf
  refine zr_putF hB hG zF_2 (by decide) kf_X2_14 rfl hnm rfl rfl rfl eh4 dX2_init_15 (fun H locs hG => ?_)
  refine lv_aload_n hx hb dX2_init_18 rfl (lv_at hl 0 rfl) ?_
  obtain ⟨hz, hf⟩ := zif_s hf
  refine zr_new (fs := [.null, .null, .int 0]) hB hG zF_7 kq_X2_20 ki_7 kn_7 (by decide) hz dX2_init_19 (fun H hG => ?_)
  refine lv_dup hx hb dX2_init_22 rfl ?_
  refine lv_sipush (v := 200) hx hb dX2_init_23 (by decide) ?_
  obtain ⟨hz, hf⟩ := zif_s hf
  obtain ⟨N6, h7, eh7, hf⟩ := zbp_s hf
  refine zr_callI (As := [.int (200 : Int32)]) kc_X2_22 hB hG (c_X7_init eh7) rfl hl.1 rfl ⟨by decide, by decide⟩ (Nat.le_of_ble_eq_true rfl) hz dX2_init_26 (fun H locs hG => ?_)
  obtain ⟨h8, eh8, hf⟩ := zb hf
  refine zr_putF hB hG zF_2 (by decide) kf_X2_23 rfl hnm rfl rfl rfl eh8 dX2_init_29 (fun H locs hG => ?_)
  refine lv_aload_n hx hb dX2_init_32 rfl (lv_at hl 0 rfl) ?_
  refine lv_iconst (v := -1) hx hb dX2_init_33 (by decide) ?_
  obtain ⟨h9, eh9, hf⟩ := zb hf
  refine zr_put hB hG zF_2 (by decide) kf_X2_27 rfl rfl rfl eh9 dX2_init_34 (fun H locs hG => ?_)
  refine lv_aload_n hx hb dX2_init_37 rfl (lv_at hl 0 rfl) ?_
  obtain ⟨hz, hf⟩ := zif_s hf
  refine zr_new (fs := [.null, .int 0]) hB hG zF_9 kq_X2_31 ki_9 kn_9 (by decide) hz dX2_init_38 (fun H hG => ?_)
  refine lv_dup hx hb dX2_init_41 rfl ?_
  obtain ⟨hz, hf⟩ := zif_s hf
  obtain ⟨N11, h12, eh12, hf⟩ := zbp_s hf
  refine zr_callI (As := []) kc_X2_33 hB hG (c_X9_init eh12) rfl hl.1 rfl ⟨by decide, by decide⟩ (Nat.le_of_ble_eq_true rfl) hz dX2_init_42 (fun H locs hG => ?_)
  obtain ⟨h13, eh13, hf⟩ := zb hf
  refine zr_putF hB hG zF_2 (by decide) kf_X2_34 rfl hnm rfl rfl rfl eh13 dX2_init_45 (fun H locs hG => ?_)
  refine lv_aload_n hx hb dX2_init_48 rfl (lv_at hl 0 rfl) ?_
  refine lv_sipush (v := 1500) hx hb dX2_init_49 (by decide) ?_
  obtain ⟨hz, hf⟩ := zif_s hf
  refine zr_newa (t := 1) (atype := .int) (a0 := ((Int32.toNatClampNeg (1500 : Int32)), .inl (fun _ => 0))) ka_1 rfl rfl hB hG (fun _ => rfl) zh_ok_i hz.1 hz.2 dX2_init_52 (fun H hG => ?_)
  obtain ⟨h14, eh14, hf⟩ := zb hf
  refine zr_putF hB hG zF_2 (by decide) kf_X2_38 rfl hnm rfl rfl rfl eh14 dX2_init_54 (fun H locs hG => ?_)
  refine lv_aload_n hx hb dX2_init_57 rfl (lv_at hl 0 rfl) ?_
  refine lv_sipush (v := 1500) hx hb dX2_init_58 (by decide) ?_
  obtain ⟨hz, hf⟩ := zif_s hf
  refine zr_newa (t := 1) (atype := .int) (a0 := ((Int32.toNatClampNeg (1500 : Int32)), .inl (fun _ => 0))) ka_1 rfl rfl hB hG (fun _ => rfl) zh_ok_i hz.1 hz.2 dX2_init_61 (fun H hG => ?_)
  obtain ⟨h15, eh15, hf⟩ := zb hf
  refine zr_putF hB hG zF_2 (by decide) kf_X2_42 rfl hnm rfl rfl rfl eh15 dX2_init_63 (fun H locs hG => ?_)
  refine lv_aload_n hx hb dX2_init_66 rfl (lv_at hl 0 rfl) ?_
  refine lv_sipush (v := 1500) hx hb dX2_init_67 (by decide) ?_
  obtain ⟨hz, hf⟩ := zif_s hf
  refine zr_newa (t := 1) (atype := .int) (a0 := ((Int32.toNatClampNeg (1500 : Int32)), .inl (fun _ => 0))) ka_1 rfl rfl hB hG (fun _ => rfl) zh_ok_i hz.1 hz.2 dX2_init_70 (fun H hG => ?_)
  obtain ⟨h16, eh16, hf⟩ := zb hf
  refine zr_putF hB hG zF_2 (by decide) kf_X2_45 rfl hnm rfl rfl rfl eh16 dX2_init_72 (fun H locs hG => ?_)
  obtain ⟨hz, hf⟩ := zif_s hf
  obtain rfl := Option.some.inj hf
  refine W.widen (k := 10) (n := 9407) hz.1 hz.2 ?_
  exact zr_vret hB hG ⟨rfl, rfl, rfl⟩ dX2_init_75
end G_X2_init
theorem c_X2_init {l : Launch} {D : va_G} {K : Nat → ClassId} {b0 N N2 : Nat} {h h2 : zh_H} {x0 : Nat} (hf : b_X2_init_0 N 0 0 h x0 = some (N2, h2)) : zc l yX2_init cX2_init 1 none 2 10 9407 D K b0 N h [.ref x0] (zq none N2 h2) := by
  refine zc.of [(0, .ref x0)] (by decide) rfl (Nat.le_of_ble_eq_true rfl) ?_
  intro p e s m args below meth c hB hnm hG ls hl
  exact w_X2_init_0 (res := (N2, h2)) hB hnm _ _ ls N 0 0 h x0 hG (lv_sub hl [0] rfl) hf

section G_X3_init
variable {p : Program} {l : Launch} {e : Env} {s : State} {m : MethodId} {args : Array Value} {below : List Frame} {meth : Method} {c : Code} {D : va_G} {K : Nat → ClassId} {b0 zz : Nat}
set_option maxRecDepth 100000 in
set_option maxHeartbeats 4000000 in
theorem w_X3_init_0 {res : (Nat × zh_H)} (hB : zc_B p s m args meth c cX3_init 1 RX3 none D K) (hnm : meth.name = "<init>") : ∀ (H : Heap) (locs : List Loc) (ls : Array Slot) (N cs sl : Nat) (h : zh_H) (x0 : Nat), zh_G D K b0 N h s.heap H locs → lv_has ls 1 [(0, .ref x0)] → b_X3_init_0 N cs sl h x0 = some res → W p l e (zc_rm 1 1 751) s m args below meth c H locs cs sl (MQ below (zc_Q D K b0 (zq none res.1 res.2)) args s 1 751 (fun q => b0 ≤ q)) (F0 m 0 ls []) := by
  have hx := hB.1
  have hb := hB.2.1
  intro H locs ls N cs sl h x0 hG hl hf
  unfold b_X3_init_0 at hf
  refine lv_aload_n hx hb dX3_init_0 rfl (lv_at hl 0 rfl) ?_
  refine zr_oinit km_X3_3 k_oi k_oc hl.1 hB dX3_init_1 (by decide) (Nat.le_of_ble_eq_true rfl) ?_
  refine lv_aload_n hx hb dX3_init_4 rfl (lv_at hl 0 rfl) ?_
  refine lv_sipush (v := 751) hx hb dX3_init_5 (by decide) ?_
  obtain ⟨hz, hf⟩ := zif_s hf
  refine zr_newa (t := 1) (atype := .int) (a0 := ((Int32.toNatClampNeg (751 : Int32)), .inl (fun _ => 0))) ka_1 rfl rfl hB hG (fun _ => rfl) zh_ok_i hz.1 hz.2 dX3_init_8 (fun H hG => ?_)
  obtain ⟨h1, eh1, hf⟩ := zb hf
  refine zr_putF hB hG zF_3 (by decide) kf_X3_9 rfl hnm rfl rfl rfl eh1 dX3_init_10 (fun H locs hG => ?_)
  obtain ⟨hz, hf⟩ := zif_s hf
  obtain rfl := Option.some.inj hf
  refine W.widen (k := 1) (n := 751) hz.1 hz.2 ?_
  exact zr_vret hB hG ⟨rfl, rfl, rfl⟩ dX3_init_13
end G_X3_init
theorem c_X3_init {l : Launch} {D : va_G} {K : Nat → ClassId} {b0 N N2 : Nat} {h h2 : zh_H} {x0 : Nat} (hf : b_X3_init_0 N 0 0 h x0 = some (N2, h2)) : zc l yX3_init cX3_init 1 none 1 1 751 D K b0 N h [.ref x0] (zq none N2 h2) := by
  refine zc.of [(0, .ref x0)] (by decide) rfl (Nat.le_of_ble_eq_true rfl) ?_
  intro p e s m args below meth c hB hnm hG ls hl
  exact w_X3_init_0 (res := (N2, h2)) hB hnm _ _ ls N 0 0 h x0 hG (lv_sub hl [0] rfl) hf

section G_X10_init
variable {p : Program} {l : Launch} {e : Env} {s : State} {m : MethodId} {args : Array Value} {below : List Frame} {meth : Method} {c : Code} {D : va_G} {K : Nat → ClassId} {b0 zz : Nat}
set_option maxRecDepth 100000 in
set_option maxHeartbeats 4000000 in
theorem w_X10_init_68 {res : (Nat × zh_H)} (hB : zc_B p s m args meth c cX10_init 2 RX10 none D K) (hnm : meth.name = "<init>") : ∀ n : Nat, ∀ (H : Heap) (locs : List Loc) (ls : Array Slot) (N cs sl : Nat) (h : zh_H) (x0 : Nat) (x1 : Int32), zh_G D K b0 N h s.heap H locs → lv_has ls 2 [(0, .ref x0), (1, .int x1)] → b_X10_init_68 n N cs sl h x0 x1 = some res → W p l e (zc_rm 3 83 71422) s m args below meth c H locs cs sl (MQ below (zc_Q D K b0 (zq none res.1 res.2)) args s 83 71422 (fun q => b0 ≤ q)) (F0 m 68 ls []) := by
  have hx := hB.1
  have hb := hB.2.1
  intro n
  induction n with
  | zero =>
    intro H locs ls N cs sl h x0 x1 hG hl hf
    cases hf
  | succ n ih =>
    intro H locs ls N cs sl h x0 x1 hG hl hf
    unfold b_X10_init_68 at hf
    refine lv_iload_n hx hb dX10_init_68 rfl (lv_at hl 1 rfl) ?_
    refine lv_bipush (v := 8) hx hb dX10_init_69 (by decide) ?_
    refine lv_icmp_ge (tgt := 96) hx hb dX10_init_71 (by decide) (fun hc30 => ?_) (fun hc30 => ?_)
    · rw [if_pos hc30] at hf
      refine lv_aload_n hx hb dX10_init_96 rfl (lv_at hl 0 rfl) ?_
      obtain ⟨hz, hf⟩ := zif_s hf
      refine zr_new (fs := [.null, .null, .int 0]) hB hG zF_7 kq_X10_31 ki_7 kn_7 (by decide) hz dX10_init_97 (fun H hG => ?_)
      refine lv_dup hx hb dX10_init_100 rfl ?_
      refine lv_sipush (v := 1500) hx hb dX10_init_101 (by decide) ?_
      obtain ⟨hz, hf⟩ := zif_s hf
      obtain ⟨N2, h3, eh3, hf⟩ := zbp_s hf
      refine zr_callI (As := [.int (1500 : Int32)]) kc_X10_37 hB hG (c_X7_init eh3) rfl hl.1 rfl ⟨by decide, by decide⟩ (Nat.le_of_ble_eq_true rfl) hz dX10_init_104 (fun H locs hG => ?_)
      obtain ⟨h4, eh4, hf⟩ := zb hf
      refine zr_putF hB hG zF_10 (by decide) kf_X10_38 rfl hnm rfl rfl rfl eh4 dX10_init_107 (fun H locs hG => ?_)
      refine lv_aload_n hx hb dX10_init_110 rfl (lv_at hl 0 rfl) ?_
      obtain ⟨hz, hf⟩ := zif_s hf
      refine zr_new (fs := [.null, .int 0, .long 0, .long 0, .null, .int 0, .int 0]) hB hG zF_4 kq_X10_42 ki_4 kn_4 (by decide) hz dX10_init_111 (fun H hG => ?_)
      refine lv_dup hx hb dX10_init_114 rfl ?_
      obtain ⟨hz, hf⟩ := zif_s hf
      obtain ⟨N6, h7, eh7, hf⟩ := zbp_s hf
      refine zr_callI (As := []) kc_X10_44 hB hG (c_X4_init eh7) rfl hl.1 rfl ⟨by decide, by decide⟩ (Nat.le_of_ble_eq_true rfl) hz dX10_init_115 (fun H locs hG => ?_)
      obtain ⟨h8, eh8, hf⟩ := zb hf
      refine zr_putF hB hG zF_10 (by decide) kf_X10_45 rfl hnm rfl rfl rfl eh8 dX10_init_118 (fun H locs hG => ?_)
      refine lv_aload_n hx hb dX10_init_121 rfl (lv_at hl 0 rfl) ?_
      obtain ⟨hz, hf⟩ := zif_s hf
      refine zr_new (fs := [.null, .int 0, .int 0, .int 0, .null, .null, .null, .int 0, .int 0, .int 0, .int 0]) hB hG zF_6 kq_X10_49 ki_6 kn_6 (by decide) hz dX10_init_122 (fun H hG => ?_)
      refine lv_dup hx hb dX10_init_125 rfl ?_
      obtain ⟨hz, hf⟩ := zif_s hf
      obtain ⟨N10, h11, eh11, hf⟩ := zbp_s hf
      refine zr_callI (As := []) kc_X10_51 hB hG (c_X6_init eh11) rfl hl.1 rfl ⟨by decide, by decide⟩ (Nat.le_of_ble_eq_true rfl) hz dX10_init_126 (fun H locs hG => ?_)
      obtain ⟨h12, eh12, hf⟩ := zb hf
      refine zr_putF hB hG zF_10 (by decide) kf_X10_52 rfl hnm rfl rfl rfl eh12 dX10_init_129 (fun H locs hG => ?_)
      refine lv_aload_n hx hb dX10_init_132 rfl (lv_at hl 0 rfl) ?_
      obtain ⟨hz, hf⟩ := zif_s hf
      refine zr_new (fs := [.null, .null, .int 0, .int 0, .int 0, .int 0, .int 0, .null, .null, .null, .int 0, .int 0, .null, .null, .int 0, .null]) hB hG zF_5 kq_X10_56 ki_5 kn_5 (by decide) hz dX10_init_133 (fun H hG => ?_)
      refine lv_dup hx hb dX10_init_136 rfl ?_
      obtain ⟨hz, hf⟩ := zif_s hf
      obtain ⟨N14, h15, eh15, hf⟩ := zbp_s hf
      refine zr_callI (As := []) kc_X10_58 hB hG (c_X5_init eh15) rfl hl.1 rfl ⟨by decide, by decide⟩ (Nat.le_of_ble_eq_true rfl) hz dX10_init_137 (fun H locs hG => ?_)
      obtain ⟨h16, eh16, hf⟩ := zb hf
      refine zr_putF hB hG zF_10 (by decide) kf_X10_59 rfl hnm rfl rfl rfl eh16 dX10_init_140 (fun H locs hG => ?_)
      refine lv_aload_n hx hb dX10_init_143 rfl (lv_at hl 0 rfl) ?_
      obtain ⟨hz, hf⟩ := zif_s hf
      refine zr_new (fs := [.null, .null, .int 0, .int 0, .null, .null, .null, .null, .int 0]) hB hG zF_2 kq_X10_63 ki_2 kn_2 (by decide) hz dX10_init_144 (fun H hG => ?_)
      refine lv_dup hx hb dX10_init_147 rfl ?_
      obtain ⟨hz, hf⟩ := zif_s hf
      obtain ⟨N18, h19, eh19, hf⟩ := zbp_s hf
      refine zr_callI (As := []) kc_X10_65 hB hG (c_X2_init eh19) rfl hl.1 rfl ⟨by decide, by decide⟩ (Nat.le_of_ble_eq_true rfl) hz dX10_init_148 (fun H locs hG => ?_)
      obtain ⟨h20, eh20, hf⟩ := zb hf
      refine zr_putF hB hG zF_10 (by decide) kf_X10_66 rfl hnm rfl rfl rfl eh20 dX10_init_151 (fun H locs hG => ?_)
      refine lv_aload_n hx hb dX10_init_154 rfl (lv_at hl 0 rfl) ?_
      obtain ⟨hz, hf⟩ := zif_s hf
      refine zr_new (fs := [.null, .int 0]) hB hG zF_3 kq_X10_70 ki_3 kn_3 (by decide) hz dX10_init_155 (fun H hG => ?_)
      refine lv_dup hx hb dX10_init_158 rfl ?_
      obtain ⟨hz, hf⟩ := zif_s hf
      obtain ⟨N22, h23, eh23, hf⟩ := zbp_s hf
      refine zr_callI (As := []) kc_X10_72 hB hG (c_X3_init eh23) rfl hl.1 rfl ⟨by decide, by decide⟩ (Nat.le_of_ble_eq_true rfl) hz dX10_init_159 (fun H locs hG => ?_)
      obtain ⟨h24, eh24, hf⟩ := zb hf
      refine zr_putF hB hG zF_10 (by decide) kf_X10_73 rfl hnm rfl rfl rfl eh24 dX10_init_162 (fun H locs hG => ?_)
      obtain ⟨hz, hf⟩ := zif_s hf
      obtain rfl := Option.some.inj hf
      refine W.widen (k := 83) (n := 71422) hz.1 hz.2 ?_
      exact zr_vret hB hG ⟨rfl, rfl, rfl⟩ dX10_init_165
    · rw [if_neg hc30] at hf
      refine lv_aload_n hx hb dX10_init_74 rfl (lv_at hl 0 rfl) ?_
      obtain ⟨a25, ea25, hf⟩ := zb hf
      refine zr_getR hB hG zF_10 (by decide) kf_X10_33 ea25 dX10_init_75 ?_
      refine lv_iload_n hx hb dX10_init_78 rfl (lv_at hl 1 rfl) ?_
      obtain ⟨hz, hf⟩ := zif_s hf
      refine zr_new (fs := [.null, .null, .int 0]) hB hG zF_7 kq_X10_31 ki_7 kn_7 (by decide) hz dX10_init_79 (fun H hG => ?_)
      refine lv_dup hx hb dX10_init_82 rfl ?_
      refine lv_sipush (v := 200) hx hb dX10_init_83 (by decide) ?_
      obtain ⟨hz, hf⟩ := zif_s hf
      obtain ⟨N27, h28, eh28, hf⟩ := zbp_s hf
      refine zr_callI (As := [.int (200 : Int32)]) kc_X10_37 hB hG (c_X7_init eh28) rfl hl.1 rfl ⟨by decide, by decide⟩ (Nat.le_of_ble_eq_true rfl) hz dX10_init_86 (fun H locs hG => ?_)
      obtain ⟨h29, eh29, hf⟩ := zb hf
      refine zr_aast (t := 4) (ci := 7) rfl rfl hB hG eh29 dX10_init_89 (fun H locs hG => ?_)
      refine lv_iinc (v := (x1 + (1 : Int32))) (lv' := [(1, .int (x1 + (1 : Int32))), (0, .ref x0)]) hx hb dX10_init_90 hl (k := 1) rfl rfl (by decide) rfl (fun ls hl => ?_)
      refine lv_goto (tgt := 68) hx hb dX10_init_93 (by decide) ?_
      exact ih _ _ _ N27 ((cs + 1) + 2) ((sl + 3) + 3000) h29 (x0) ((x1 + (1 : Int32))) hG (lv_sub hl [1, 0] rfl) hf

set_option maxRecDepth 100000 in
set_option maxHeartbeats 4000000 in
theorem w_X10_init_0 {res : (Nat × zh_H)} (hB : zc_B p s m args meth c cX10_init 2 RX10 none D K) (hnm : meth.name = "<init>") : ∀ (H : Heap) (locs : List Loc) (ls : Array Slot) (N cs sl : Nat) (h : zh_H) (x0 : Nat), zh_G D K b0 N h s.heap H locs → lv_has ls 2 [(0, .ref x0)] → b_X10_init_0 N cs sl h x0 = some res → W p l e (zc_rm 3 83 71422) s m args below meth c H locs cs sl (MQ below (zc_Q D K b0 (zq none res.1 res.2)) args s 83 71422 (fun q => b0 ≤ q)) (F0 m 0 ls []) := by
  have hx := hB.1
  have hb := hB.2.1
  intro H locs ls N cs sl h x0 hG hl hf
  unfold b_X10_init_0 at hf
  refine lv_aload_n hx hb dX10_init_0 rfl (lv_at hl 0 rfl) ?_
  refine zr_oinit km_X10_3 k_oi k_oc hl.1 hB dX10_init_1 (by decide) (Nat.le_of_ble_eq_true rfl) ?_
  refine lv_aload_n hx hb dX10_init_4 rfl (lv_at hl 0 rfl) ?_
  obtain ⟨hz, hf⟩ := zif_s hf
  refine zr_new (fs := [.null, .int 0]) hB hG zF_0 kq_X10_9 ki_0 kn_0 (by decide) hz dX10_init_5 (fun H hG => ?_)
  refine lv_dup hx hb dX10_init_8 rfl ?_
  refine lv_sipush (v := 400) hx hb dX10_init_9 (by decide) ?_
  obtain ⟨hz, hf⟩ := zif_s hf
  obtain ⟨N2, h3, eh3, hf⟩ := zbp_s hf
  refine zr_callI (As := [.int (400 : Int32)]) kc_X10_11 hB hG (c_X0_init eh3) rfl hl.1 rfl ⟨by decide, by decide⟩ (Nat.le_of_ble_eq_true rfl) hz dX10_init_12 (fun H locs hG => ?_)
  obtain ⟨h4, eh4, hf⟩ := zb hf
  refine zr_putF hB hG zF_10 (by decide) kf_X10_14 rfl hnm rfl rfl rfl eh4 dX10_init_15 (fun H locs hG => ?_)
  refine lv_aload_n hx hb dX10_init_18 rfl (lv_at hl 0 rfl) ?_
  obtain ⟨hz, hf⟩ := zif_s hf
  refine zr_new (fs := [.null, .int 0]) hB hG zF_0 kq_X10_9 ki_0 kn_0 (by decide) hz dX10_init_19 (fun H hG => ?_)
  refine lv_dup hx hb dX10_init_22 rfl ?_
  refine lv_sipush (v := 1500) hx hb dX10_init_23 (by decide) ?_
  obtain ⟨hz, hf⟩ := zif_s hf
  obtain ⟨N6, h7, eh7, hf⟩ := zbp_s hf
  refine zr_callI (As := [.int (1500 : Int32)]) kc_X10_11 hB hG (c_X0_init eh7) rfl hl.1 rfl ⟨by decide, by decide⟩ (Nat.le_of_ble_eq_true rfl) hz dX10_init_26 (fun H locs hG => ?_)
  obtain ⟨h8, eh8, hf⟩ := zb hf
  refine zr_putF hB hG zF_10 (by decide) kf_X10_18 rfl hnm rfl rfl rfl eh8 dX10_init_29 (fun H locs hG => ?_)
  refine lv_aload_n hx hb dX10_init_32 rfl (lv_at hl 0 rfl) ?_
  obtain ⟨hz, hf⟩ := zif_s hf
  refine zr_new (fs := [.null, .int 0]) hB hG zF_0 kq_X10_9 ki_0 kn_0 (by decide) hz dX10_init_33 (fun H hG => ?_)
  refine lv_dup hx hb dX10_init_36 rfl ?_
  refine lv_sipush (v := 1500) hx hb dX10_init_37 (by decide) ?_
  obtain ⟨hz, hf⟩ := zif_s hf
  obtain ⟨N10, h11, eh11, hf⟩ := zbp_s hf
  refine zr_callI (As := [.int (1500 : Int32)]) kc_X10_11 hB hG (c_X0_init eh11) rfl hl.1 rfl ⟨by decide, by decide⟩ (Nat.le_of_ble_eq_true rfl) hz dX10_init_40 (fun H locs hG => ?_)
  obtain ⟨h12, eh12, hf⟩ := zb hf
  refine zr_putF hB hG zF_10 (by decide) kf_X10_21 rfl hnm rfl rfl rfl eh12 dX10_init_43 (fun H locs hG => ?_)
  refine lv_aload_n hx hb dX10_init_46 rfl (lv_at hl 0 rfl) ?_
  obtain ⟨hz, hf⟩ := zif_s hf
  refine zr_new (fs := [.null, .int 0, .int 0]) hB hG zF_1 kq_X10_24 ki_1 kn_1 (by decide) hz dX10_init_47 (fun H hG => ?_)
  refine lv_dup hx hb dX10_init_50 rfl ?_
  obtain ⟨hz, hf⟩ := zif_s hf
  obtain ⟨N14, h15, eh15, hf⟩ := zbp_s hf
  refine zr_callI (As := []) kc_X10_26 hB hG (c_X1_init eh15) rfl hl.1 rfl ⟨by decide, by decide⟩ (Nat.le_of_ble_eq_true rfl) hz dX10_init_51 (fun H locs hG => ?_)
  obtain ⟨h16, eh16, hf⟩ := zb hf
  refine zr_putF hB hG zF_10 (by decide) kf_X10_27 rfl hnm rfl rfl rfl eh16 dX10_init_54 (fun H locs hG => ?_)
  refine lv_aload_n hx hb dX10_init_57 rfl (lv_at hl 0 rfl) ?_
  refine lv_bipush (v := 8) hx hb dX10_init_58 (by decide) ?_
  obtain ⟨hz, hf⟩ := zif_s hf
  refine zr_newq (t := 4) kq_X10_31 (by decide) rfl hB hG hz.1 hz.2 dX10_init_60 (fun H hG => ?_)
  obtain ⟨h17, eh17, hf⟩ := zb hf
  refine zr_putF hB hG zF_10 (by decide) kf_X10_33 rfl hnm rfl rfl rfl eh17 dX10_init_63 (fun H locs hG => ?_)
  refine lv_iconst (v := 0) hx hb dX10_init_66 (by decide) ?_
  refine lv_istore_n (lv' := [(1, .int (0 : Int32)), (0, .ref x0)]) hx hb dX10_init_67 rfl hl (by decide) rfl (fun ls hl => ?_)
  exact w_X10_init_68 hB hnm zFuel _ _ _ (N14 + 1) (((((((((cs + 1) + 1) + 1) + 1) + 1) + 1) + 1) + 11) + 1) (((((((((sl + 2) + 1500) + 2) + 1500) + 2) + 1500) + 3) + 7515) + (Int32.toNatClampNeg (8 : Int32))) h17 (x0) ((0 : Int32)) hG (lv_sub hl [1, 0] rfl) hf
end G_X10_init
theorem c_X10_init {l : Launch} {D : va_G} {K : Nat → ClassId} {b0 N N2 : Nat} {h h2 : zh_H} {x0 : Nat} (hf : b_X10_init_0 N 0 0 h x0 = some (N2, h2)) : zc l yX10_init cX10_init 2 none 3 83 71422 D K b0 N h [.ref x0] (zq none N2 h2) := by
  refine zc.of [(0, .ref x0)] (by decide) rfl (Nat.le_of_ble_eq_true rfl) ?_
  intro p e s m args below meth c hB hnm hG ls hl
  exact w_X10_init_0 (res := (N2, h2)) hB hnm _ _ ls N 0 0 h x0 hG (lv_sub hl [0] rfl) hf

section G_X10_insert
variable {p : Program} {l : Launch} {e : Env} {s : State} {m : MethodId} {args : Array Value} {below : List Frame} {meth : Method} {c : Code} {D : va_G} {K : Nat → ClassId} {b0 N : Nat}
set_option maxRecDepth 100000 in
set_option maxHeartbeats 4000000 in
theorem w_X10_insert_15 {res : (Int32 × zh_H)} (hB : zc_B p s m args meth c cX10_insert 2 RX10 (some .int) D K) : ∀ (H : Heap) (locs : List Loc) (ls : Array Slot) (h : zh_H), zh_G D K b0 N h s.heap H locs → lv_has ls 2 [] → b_X10_insert_15 h  = some res → W p l e (zc_rm 4 0 0) s m args below meth c H locs 0 0 (MQ below (zc_Q D K b0 (zq (some (.int res.1)) N res.2)) args s 0 0 (fun q => b0 ≤ q)) (F0 m 15 ls []) := by
  have hx := hB.1
  have hb := hB.2.1
  intro H locs ls h  hG hl hf
  unfold b_X10_insert_15 at hf
  refine lv_bipush (v := -2) hx hb dX10_insert_15 (by decide) ?_
  obtain rfl := Option.some.inj hf
  exact zr_iret hB hG ⟨rfl, rfl, rfl⟩ dX10_insert_17

set_option maxRecDepth 100000 in
set_option maxHeartbeats 4000000 in
theorem w_X10_insert_0 {res : (Int32 × zh_H)} (hB : zc_B p s m args meth c cX10_insert 2 RX10 (some .int) D K) : ∀ (H : Heap) (locs : List Loc) (ls : Array Slot) (h : zh_H) (x0 : Nat) (x1 : Int32), zh_G D K b0 N h s.heap H locs → lv_has ls 2 [(0, .ref x0), (1, .int x1)] → b_X10_insert_0 h x0 x1 = some res → W p l e (zc_rm 4 0 0) s m args below meth c H locs 0 0 (MQ below (zc_Q D K b0 (zq (some (.int res.1)) N res.2)) args s 0 0 (fun q => b0 ≤ q)) (F0 m 0 ls []) := by
  have hx := hB.1
  have hb := hB.2.1
  intro H locs ls h x0 x1 hG hl hf
  unfold b_X10_insert_0 at hf
  refine lv_iload_n hx hb dX10_insert_0 rfl (lv_at hl 1 rfl) ?_
  refine lv_if_lt (tgt := 15) hx hb dX10_insert_1 (by decide) (fun hc22 => ?_) (fun hc22 => ?_)
  · rw [if_pos hc22] at hf
    exact w_X10_insert_15 hB _ _ _ h  hG (lv_sub hl [] rfl) hf
  · rw [if_neg hc22] at hf
    refine lv_iload_n hx hb dX10_insert_4 rfl (lv_at hl 1 rfl) ?_
    refine lv_aload_n hx hb dX10_insert_5 rfl (lv_at hl 0 rfl) ?_
    obtain ⟨a1, ea1, hf⟩ := zb hf
    refine zr_getR hB hG zF_10 (by decide) kf_X10_18 ea1 dX10_insert_6 ?_
    obtain ⟨v2, ev2, hf⟩ := zb hf
    refine zr_getI hB hG zF_0 (by decide) kf_X10_85 ev2 dX10_insert_9 ?_
    refine lv_icmp_le (tgt := 18) hx hb dX10_insert_12 (by decide) (fun hc21 => ?_) (fun hc21 => ?_)
    · rw [if_pos hc21] at hf
      refine lv_aload_n hx hb dX10_insert_18 rfl (lv_at hl 0 rfl) ?_
      obtain ⟨a3, ea3, hf⟩ := zb hf
      refine zr_getR hB hG zF_10 (by decide) kf_X10_18 ea3 dX10_insert_19 ?_
      obtain ⟨v4, ev4, hf⟩ := zb hf
      refine zr_getI hB hG zF_0 (by decide) kf_X10_85 ev4 dX10_insert_22 ?_
      refine lv_aload_n hx hb dX10_insert_25 rfl (lv_at hl 0 rfl) ?_
      obtain ⟨a5, ea5, hf⟩ := zb hf
      refine zr_getR hB hG zF_10 (by decide) kf_X10_14 ea5 dX10_insert_26 ?_
      obtain ⟨v6, ev6, hf⟩ := zb hf
      refine zr_getI hB hG zF_0 (by decide) kf_X10_85 ev6 dX10_insert_29 ?_
      refine lv_iadd hx hb dX10_insert_32 ?_
      refine lv_sipush (v := 1500) hx hb dX10_insert_33 (by decide) ?_
      refine lv_icmp_le (tgt := 42) hx hb dX10_insert_36 (by decide) (fun hc20 => ?_) (fun hc20 => ?_)
      · rw [if_pos hc20] at hf
        refine lv_aload_n hx hb dX10_insert_42 rfl (lv_at hl 0 rfl) ?_
        obtain ⟨a7, ea7, hf⟩ := zb hf
        refine zr_getR hB hG zF_10 (by decide) kf_X10_27 ea7 dX10_insert_43 ?_
        refine lv_aload_n hx hb dX10_insert_46 rfl (lv_at hl 0 rfl) ?_
        obtain ⟨a8, ea8, hf⟩ := zb hf
        refine zr_getR hB hG zF_10 (by decide) kf_X10_18 ea8 dX10_insert_47 ?_
        obtain ⟨o9, eo9, hf⟩ := zb hf
        obtain ⟨h10, eh10, hf⟩ := zb hf
        refine zr_callVv (As := [.ref a8]) kc_X10_120 hB hG (c_X1_keep eh10) eo9 rfl hl.1 rfl ⟨by decide, by decide⟩ (Nat.le_of_ble_eq_true rfl) ⟨by decide, by decide⟩ dX10_insert_50 (fun H locs hG => ?_)
        refine lv_aload_n hx hb dX10_insert_53 rfl (lv_at hl 0 rfl) ?_
        obtain ⟨a11, ea11, hf⟩ := zb hf
        refine zr_getR hB hG zF_10 (by decide) kf_X10_18 ea11 dX10_insert_54 ?_
        refine lv_iload_n hx hb dX10_insert_57 rfl (lv_at hl 1 rfl) ?_
        refine lv_aload_n hx hb dX10_insert_58 rfl (lv_at hl 0 rfl) ?_
        obtain ⟨a12, ea12, hf⟩ := zb hf
        refine zr_getR hB hG zF_10 (by decide) kf_X10_14 ea12 dX10_insert_59 ?_
        obtain ⟨o13, eo13, hf⟩ := zb hf
        obtain ⟨h14, eh14, hf⟩ := zb hf
        refine zr_callVv (As := [.int x1, .ref a12]) kc_X10_123 hB hG (c_X0_putIn eh14) eo13 rfl hl.1 rfl ⟨by decide, by decide⟩ (Nat.le_of_ble_eq_true rfl) ⟨by decide, by decide⟩ dX10_insert_62 (fun H locs hG => ?_)
        refine lv_aload_n hx hb dX10_insert_65 rfl (lv_at hl 0 rfl) ?_
        obtain ⟨a15, ea15, hf⟩ := zb hf
        refine zr_getR hB hG zF_10 (by decide) kf_X10_14 ea15 dX10_insert_66 ?_
        obtain ⟨o16, eo16, hf⟩ := zb hf
        obtain ⟨h17, eh17, hf⟩ := zb hf
        refine zr_callVv (As := []) kc_X10_96 hB hG (c_X0_clear eh17) eo16 rfl hl.1 rfl ⟨by decide, by decide⟩ (Nat.le_of_ble_eq_true rfl) ⟨by decide, by decide⟩ dX10_insert_69 (fun H locs hG => ?_)
        refine lv_aload_n hx hb dX10_insert_72 rfl (lv_at hl 0 rfl) ?_
        obtain ⟨a18, ea18, hf⟩ := zb hf
        refine zr_getR hB hG zF_10 (by decide) kf_X10_18 ea18 dX10_insert_73 ?_
        obtain ⟨v19, ev19, hf⟩ := zb hf
        refine zr_getI hB hG zF_0 (by decide) kf_X10_85 ev19 dX10_insert_76 ?_
        obtain rfl := Option.some.inj hf
        exact zr_iret hB hG ⟨rfl, rfl, rfl⟩ dX10_insert_79
      · rw [if_neg hc20] at hf
        refine lv_bipush (v := -3) hx hb dX10_insert_39 (by decide) ?_
        obtain rfl := Option.some.inj hf
        exact zr_iret hB hG ⟨rfl, rfl, rfl⟩ dX10_insert_41
    · rw [if_neg hc21] at hf
      exact w_X10_insert_15 hB _ _ _ h  hG (lv_sub hl [] rfl) hf
end G_X10_insert
theorem c_X10_insert {l : Launch} {D : va_G} {K : Nat → ClassId} {b0 N : Nat} {h : zh_H} {x0 : Nat} {x1 : Int32} {r : Int32} {h2 : zh_H} (hf : b_X10_insert_0 h x0 x1 = some (r, h2)) : zc l yX10_insert cX10_insert 2 (some .int) 4 0 0 D K b0 N h [.ref x0, .int x1] (zq (some (.int r)) N h2) := by
  refine zc.of [(0, .ref x0), (1, .int x1)] (by decide) rfl (Nat.le_of_ble_eq_true rfl) ?_
  intro p e s m args below meth c hB hnm hG ls hl
  exact w_X10_insert_0 (res := (r, h2)) hB _ _ ls h x0 x1 hG (lv_sub hl [0, 1] rfl) hf

section G_X10_length
variable {p : Program} {l : Launch} {e : Env} {s : State} {m : MethodId} {args : Array Value} {below : List Frame} {meth : Method} {c : Code} {D : va_G} {K : Nat → ClassId} {b0 N : Nat}
set_option maxRecDepth 100000 in
set_option maxHeartbeats 4000000 in
theorem w_X10_length_0 {res : (Int32 × zh_H)} (hB : zc_B p s m args meth c cX10_length 1 RX10 (some .int) D K) : ∀ (H : Heap) (locs : List Loc) (ls : Array Slot) (h : zh_H) (x0 : Nat), zh_G D K b0 N h s.heap H locs → lv_has ls 1 [(0, .ref x0)] → b_X10_length_0 h x0 = some res → W p l e (zc_rm 0 0 0) s m args below meth c H locs 0 0 (MQ below (zc_Q D K b0 (zq (some (.int res.1)) N res.2)) args s 0 0 (fun q => b0 ≤ q)) (F0 m 0 ls []) := by
  have hx := hB.1
  have hb := hB.2.1
  intro H locs ls h x0 hG hl hf
  unfold b_X10_length_0 at hf
  refine lv_aload_n hx hb dX10_length_0 rfl (lv_at hl 0 rfl) ?_
  obtain ⟨a1, ea1, hf⟩ := zb hf
  refine zr_getR hB hG zF_10 (by decide) kf_X10_18 ea1 dX10_length_1 ?_
  obtain ⟨v2, ev2, hf⟩ := zb hf
  refine zr_getI hB hG zF_0 (by decide) kf_X10_85 ev2 dX10_length_4 ?_
  obtain rfl := Option.some.inj hf
  exact zr_iret hB hG ⟨rfl, rfl, rfl⟩ dX10_length_7
end G_X10_length
theorem c_X10_length {l : Launch} {D : va_G} {K : Nat → ClassId} {b0 N : Nat} {h : zh_H} {x0 : Nat} {r : Int32} {h2 : zh_H} (hf : b_X10_length_0 h x0 = some (r, h2)) : zc l yX10_length cX10_length 1 (some .int) 0 0 0 D K b0 N h [.ref x0] (zq (some (.int r)) N h2) := by
  refine zc.of [(0, .ref x0)] (by decide) rfl (Nat.le_of_ble_eq_true rfl) ?_
  intro p e s m args below meth c hB hnm hG ls hl
  exact w_X10_length_0 (res := (r, h2)) hB _ _ ls h x0 hG (lv_sub hl [0] rfl) hf

section G_X3_get
variable {p : Program} {l : Launch} {e : Env} {s : State} {m : MethodId} {args : Array Value} {below : List Frame} {meth : Method} {c : Code} {D : va_G} {K : Nat → ClassId} {b0 N : Nat}
set_option maxRecDepth 100000 in
set_option maxHeartbeats 4000000 in
theorem w_X3_get_22 {res : (Int32 × zh_H)} (hB : zc_B p s m args meth c cX3_get 2 RX3 (some .int) D K) : ∀ (H : Heap) (locs : List Loc) (ls : Array Slot) (h : zh_H) (y0 : Int32), zh_G D K b0 N h s.heap H locs → lv_has ls 2 [] → b_X3_get_22 h y0 = some res → W p l e (zc_rm 0 0 0) s m args below meth c H locs 0 0 (MQ below (zc_Q D K b0 (zq (some (.int res.1)) N res.2)) args s 0 0 (fun q => b0 ≤ q)) (F0 m 22 ls [.int y0]) := by
  have hx := hB.1
  have hb := hB.2.1
  intro H locs ls h y0 hG hl hf
  unfold b_X3_get_22 at hf
  obtain rfl := Option.some.inj hf
  exact zr_iret hB hG ⟨rfl, rfl, rfl⟩ dX3_get_22

set_option maxRecDepth 100000 in
set_option maxHeartbeats 4000000 in
theorem w_X3_get_21 {res : (Int32 × zh_H)} (hB : zc_B p s m args meth c cX3_get 2 RX3 (some .int) D K) : ∀ (H : Heap) (locs : List Loc) (ls : Array Slot) (h : zh_H), zh_G D K b0 N h s.heap H locs → lv_has ls 2 [] → b_X3_get_21 h  = some res → W p l e (zc_rm 0 0 0) s m args below meth c H locs 0 0 (MQ below (zc_Q D K b0 (zq (some (.int res.1)) N res.2)) args s 0 0 (fun q => b0 ≤ q)) (F0 m 21 ls []) := by
  have hx := hB.1
  have hb := hB.2.1
  intro H locs ls h  hG hl hf
  unfold b_X3_get_21 at hf
  refine lv_iconst (v := -1) hx hb dX3_get_21 (by decide) ?_
  exact w_X3_get_22 hB _ _ _ h ((-1 : Int32)) hG (lv_sub hl [] rfl) hf

set_option maxRecDepth 100000 in
set_option maxHeartbeats 4000000 in
theorem w_X3_get_0 {res : (Int32 × zh_H)} (hB : zc_B p s m args meth c cX3_get 2 RX3 (some .int) D K) : ∀ (H : Heap) (locs : List Loc) (ls : Array Slot) (h : zh_H) (x0 : Nat) (x1 : Int32), zh_G D K b0 N h s.heap H locs → lv_has ls 2 [(0, .ref x0), (1, .int x1)] → b_X3_get_0 h x0 x1 = some res → W p l e (zc_rm 0 0 0) s m args below meth c H locs 0 0 (MQ below (zc_Q D K b0 (zq (some (.int res.1)) N res.2)) args s 0 0 (fun q => b0 ≤ q)) (F0 m 0 ls []) := by
  have hx := hB.1
  have hb := hB.2.1
  intro H locs ls h x0 x1 hG hl hf
  unfold b_X3_get_0 at hf
  refine lv_iload_n hx hb dX3_get_0 rfl (lv_at hl 1 rfl) ?_
  refine lv_if_lt (tgt := 21) hx hb dX3_get_1 (by decide) (fun hc5 => ?_) (fun hc5 => ?_)
  · rw [if_pos hc5] at hf
    exact w_X3_get_21 hB _ _ _ h  hG (lv_sub hl [] rfl) hf
  · rw [if_neg hc5] at hf
    refine lv_iload_n hx hb dX3_get_4 rfl (lv_at hl 1 rfl) ?_
    refine lv_aload_n hx hb dX3_get_5 rfl (lv_at hl 0 rfl) ?_
    obtain ⟨v1, ev1, hf⟩ := zb hf
    refine zr_getI hB hG zF_3 (by decide) kf_X3_15 ev1 dX3_get_6 ?_
    refine lv_icmp_ge (tgt := 21) hx hb dX3_get_9 (by decide) (fun hc4 => ?_) (fun hc4 => ?_)
    · rw [if_pos hc4] at hf
      exact w_X3_get_21 hB _ _ _ h  hG (lv_sub hl [] rfl) hf
    · rw [if_neg hc4] at hf
      refine lv_aload_n hx hb dX3_get_12 rfl (lv_at hl 0 rfl) ?_
      obtain ⟨a2, ea2, hf⟩ := zb hf
      refine zr_getR hB hG zF_3 (by decide) kf_X3_9 ea2 dX3_get_13 ?_
      refine lv_iload_n hx hb dX3_get_16 rfl (lv_at hl 1 rfl) ?_
      obtain ⟨v3, ev3, hf⟩ := zb hf
      refine zr_iald hB hG ev3 dX3_get_17 ?_
      refine lv_goto (tgt := 22) hx hb dX3_get_18 (by decide) ?_
      exact w_X3_get_22 hB _ _ _ h (v3) hG (lv_sub hl [] rfl) hf
end G_X3_get
theorem c_X3_get {l : Launch} {D : va_G} {K : Nat → ClassId} {b0 N : Nat} {h : zh_H} {x0 : Nat} {x1 : Int32} {r : Int32} {h2 : zh_H} (hf : b_X3_get_0 h x0 x1 = some (r, h2)) : zc l yX3_get cX3_get 2 (some .int) 0 0 0 D K b0 N h [.ref x0, .int x1] (zq (some (.int r)) N h2) := by
  refine zc.of [(0, .ref x0), (1, .int x1)] (by decide) rfl (Nat.le_of_ble_eq_true rfl) ?_
  intro p e s m args below meth c hB hnm hG ls hl
  exact w_X3_get_0 (res := (r, h2)) hB _ _ ls h x0 x1 hG (lv_sub hl [0, 1] rfl) hf

section G_X10_line
variable {p : Program} {l : Launch} {e : Env} {s : State} {m : MethodId} {args : Array Value} {below : List Frame} {meth : Method} {c : Code} {D : va_G} {K : Nat → ClassId} {b0 N : Nat}
set_option maxRecDepth 100000 in
set_option maxHeartbeats 4000000 in
theorem w_X10_line_0 {res : (Int32 × zh_H)} (hB : zc_B p s m args meth c cX10_line 2 RX10 (some .int) D K) : ∀ (H : Heap) (locs : List Loc) (ls : Array Slot) (h : zh_H) (x0 : Nat) (x1 : Int32), zh_G D K b0 N h s.heap H locs → lv_has ls 2 [(0, .ref x0), (1, .int x1)] → b_X10_line_0 h x0 x1 = some res → W p l e (zc_rm 1 0 0) s m args below meth c H locs 0 0 (MQ below (zc_Q D K b0 (zq (some (.int res.1)) N res.2)) args s 0 0 (fun q => b0 ≤ q)) (F0 m 0 ls []) := by
  have hx := hB.1
  have hb := hB.2.1
  intro H locs ls h x0 x1 hG hl hf
  unfold b_X10_line_0 at hf
  refine lv_aload_n hx hb dX10_line_0 rfl (lv_at hl 0 rfl) ?_
  obtain ⟨a1, ea1, hf⟩ := zb hf
  refine zr_getR hB hG zF_10 (by decide) kf_X10_73 ea1 dX10_line_1 ?_
  refine lv_iload_n hx hb dX10_line_4 rfl (lv_at hl 1 rfl) ?_
  obtain ⟨o2, eo2, hf⟩ := zb hf
  obtain ⟨v4, h3, eh3, hf⟩ := zbp_s hf
  refine zr_callV (As := [.int x1]) kc_X10_203 hB hG (c_X3_get eh3) eo2 rfl hl.1 rfl ⟨by decide, by decide⟩ (Nat.le_of_ble_eq_true rfl) ⟨by decide, by decide⟩ dX10_line_5 (fun H locs hG => ?_)
  obtain rfl := Option.some.inj hf
  exact zr_iret hB hG ⟨rfl, rfl, rfl⟩ dX10_line_8
end G_X10_line
theorem c_X10_line {l : Launch} {D : va_G} {K : Nat → ClassId} {b0 N : Nat} {h : zh_H} {x0 : Nat} {x1 : Int32} {r : Int32} {h2 : zh_H} (hf : b_X10_line_0 h x0 x1 = some (r, h2)) : zc l yX10_line cX10_line 2 (some .int) 1 0 0 D K b0 N h [.ref x0, .int x1] (zq (some (.int r)) N h2) := by
  refine zc.of [(0, .ref x0), (1, .int x1)] (by decide) rfl (Nat.le_of_ble_eq_true rfl) ?_
  intro p e s m args below meth c hB hnm hG ls hl
  exact w_X10_line_0 (res := (r, h2)) hB _ _ ls h x0 x1 hG (lv_sub hl [0, 1] rfl) hf

section G_X3_clear
variable {p : Program} {l : Launch} {e : Env} {s : State} {m : MethodId} {args : Array Value} {below : List Frame} {meth : Method} {c : Code} {D : va_G} {K : Nat → ClassId} {b0 N : Nat}
set_option maxRecDepth 100000 in
set_option maxHeartbeats 4000000 in
theorem w_X3_clear_0 {res : zh_H} (hB : zc_B p s m args meth c cX3_clear 1 RX3 none D K) : ∀ (H : Heap) (locs : List Loc) (ls : Array Slot) (h : zh_H) (x0 : Nat), zh_G D K b0 N h s.heap H locs → lv_has ls 1 [(0, .ref x0)] → b_X3_clear_0 h x0 = some res → W p l e (zc_rm 0 0 0) s m args below meth c H locs 0 0 (MQ below (zc_Q D K b0 (zq none N res)) args s 0 0 (fun q => b0 ≤ q)) (F0 m 0 ls []) := by
  have hx := hB.1
  have hb := hB.2.1
  intro H locs ls h x0 hG hl hf
  unfold b_X3_clear_0 at hf
  refine lv_aload_n hx hb dX3_clear_0 rfl (lv_at hl 0 rfl) ?_
  refine lv_iconst (v := 0) hx hb dX3_clear_1 (by decide) ?_
  obtain ⟨h1, eh1, hf⟩ := zb hf
  refine zr_put hB hG zF_3 (by decide) kf_X3_15 rfl rfl rfl eh1 dX3_clear_2 (fun H locs hG => ?_)
  obtain rfl := Option.some.inj hf
  exact zr_vret hB hG ⟨rfl, rfl, rfl⟩ dX3_clear_5
end G_X3_clear
theorem c_X3_clear {l : Launch} {D : va_G} {K : Nat → ClassId} {b0 N : Nat} {h : zh_H} {x0 : Nat} {h2 : zh_H} (hf : b_X3_clear_0 h x0 = some h2) : zc l yX3_clear cX3_clear 1 none 0 0 0 D K b0 N h [.ref x0] (zq none N h2) := by
  refine zc.of [(0, .ref x0)] (by decide) rfl (Nat.le_of_ble_eq_true rfl) ?_
  intro p e s m args below meth c hB hnm hG ls hl
  exact w_X3_clear_0 (res := h2) hB _ _ ls h x0 hG (lv_sub hl [0] rfl) hf

section G_X3_add
variable {p : Program} {l : Launch} {e : Env} {s : State} {m : MethodId} {args : Array Value} {below : List Frame} {meth : Method} {c : Code} {D : va_G} {K : Nat → ClassId} {b0 N : Nat}
set_option maxRecDepth 100000 in
set_option maxHeartbeats 4000000 in
theorem w_X3_add_32 {res : zh_H} (hB : zc_B p s m args meth c cX3_add 2 RX3 none D K) : ∀ (H : Heap) (locs : List Loc) (ls : Array Slot) (h : zh_H), zh_G D K b0 N h s.heap H locs → lv_has ls 2 [] → b_X3_add_32 h  = some res → W p l e (zc_rm 0 0 0) s m args below meth c H locs 0 0 (MQ below (zc_Q D K b0 (zq none N res)) args s 0 0 (fun q => b0 ≤ q)) (F0 m 32 ls []) := by
  have hx := hB.1
  have hb := hB.2.1
  intro H locs ls h  hG hl hf
  unfold b_X3_add_32 at hf
  obtain rfl := Option.some.inj hf
  exact zr_vret hB hG ⟨rfl, rfl, rfl⟩ dX3_add_32

set_option maxRecDepth 100000 in
set_option maxHeartbeats 4000000 in
theorem w_X3_add_0 {res : zh_H} (hB : zc_B p s m args meth c cX3_add 2 RX3 none D K) : ∀ (H : Heap) (locs : List Loc) (ls : Array Slot) (h : zh_H) (x0 : Nat) (x1 : Int32), zh_G D K b0 N h s.heap H locs → lv_has ls 2 [(0, .ref x0), (1, .int x1)] → b_X3_add_0 h x0 x1 = some res → W p l e (zc_rm 0 0 0) s m args below meth c H locs 0 0 (MQ below (zc_Q D K b0 (zq none N res)) args s 0 0 (fun q => b0 ≤ q)) (F0 m 0 ls []) := by
  have hx := hB.1
  have hb := hB.2.1
  intro H locs ls h x0 x1 hG hl hf
  unfold b_X3_add_0 at hf
  refine lv_aload_n hx hb dX3_add_0 rfl (lv_at hl 0 rfl) ?_
  obtain ⟨v1, ev1, hf⟩ := zb hf
  refine zr_getI hB hG zF_3 (by decide) kf_X3_15 ev1 dX3_add_1 ?_
  refine lv_aload_n hx hb dX3_add_4 rfl (lv_at hl 0 rfl) ?_
  obtain ⟨a2, ea2, hf⟩ := zb hf
  refine zr_getR hB hG zF_3 (by decide) kf_X3_9 ea2 dX3_add_5 ?_
  obtain ⟨v3, ev3, hf⟩ := zb hf
  refine zr_alen ⟨_, rfl⟩ hB hG ev3 dX3_add_8 ?_
  refine lv_icmp_ge (tgt := 32) hx hb dX3_add_9 (by decide) (fun hc9 => ?_) (fun hc9 => ?_)
  · rw [if_pos hc9] at hf
    exact w_X3_add_32 hB _ _ _ h  hG (lv_sub hl [] rfl) hf
  · rw [if_neg hc9] at hf
    refine lv_aload_n hx hb dX3_add_12 rfl (lv_at hl 0 rfl) ?_
    obtain ⟨a4, ea4, hf⟩ := zb hf
    refine zr_getR hB hG zF_3 (by decide) kf_X3_9 ea4 dX3_add_13 ?_
    refine lv_aload_n hx hb dX3_add_16 rfl (lv_at hl 0 rfl) ?_
    obtain ⟨v5, ev5, hf⟩ := zb hf
    refine zr_getI hB hG zF_3 (by decide) kf_X3_15 ev5 dX3_add_17 ?_
    refine lv_iload_n hx hb dX3_add_20 rfl (lv_at hl 1 rfl) ?_
    obtain ⟨h6, eh6, hf⟩ := zb hf
    refine zr_iast hB hG eh6 dX3_add_21 (fun H locs hG => ?_)
    refine lv_aload_n hx hb dX3_add_22 rfl (lv_at hl 0 rfl) ?_
    refine lv_dup hx hb dX3_add_23 rfl ?_
    obtain ⟨v7, ev7, hf⟩ := zb hf
    refine zr_getI hB hG zF_3 (by decide) kf_X3_15 ev7 dX3_add_24 ?_
    refine lv_iconst (v := 1) hx hb dX3_add_27 (by decide) ?_
    refine lv_iadd hx hb dX3_add_28 ?_
    obtain ⟨h8, eh8, hf⟩ := zb hf
    refine zr_put hB hG zF_3 (by decide) kf_X3_15 rfl rfl rfl eh8 dX3_add_29 (fun H locs hG => ?_)
    exact w_X3_add_32 hB _ _ _ h8  hG (lv_sub hl [] rfl) hf
end G_X3_add
theorem c_X3_add {l : Launch} {D : va_G} {K : Nat → ClassId} {b0 N : Nat} {h : zh_H} {x0 : Nat} {x1 : Int32} {h2 : zh_H} (hf : b_X3_add_0 h x0 x1 = some h2) : zc l yX3_add cX3_add 2 none 0 0 0 D K b0 N h [.ref x0, .int x1] (zq none N h2) := by
  refine zc.of [(0, .ref x0), (1, .int x1)] (by decide) rfl (Nat.le_of_ble_eq_true rfl) ?_
  intro p e s m args below meth c hB hnm hG ls hl
  exact w_X3_add_0 (res := h2) hB _ _ ls h x0 x1 hG (lv_sub hl [0, 1] rfl) hf

section G_X10_lines
variable {p : Program} {l : Launch} {e : Env} {s : State} {m : MethodId} {args : Array Value} {below : List Frame} {meth : Method} {c : Code} {D : va_G} {K : Nat → ClassId} {b0 N : Nat}
set_option maxRecDepth 100000 in
set_option maxHeartbeats 4000000 in
theorem w_X10_lines_15 {res : (Int32 × zh_H)} (hB : zc_B p s m args meth c cX10_lines 8 RX10 (some .int) D K) : ∀ (H : Heap) (locs : List Loc) (ls : Array Slot) (h : zh_H), zh_G D K b0 N h s.heap H locs → lv_has ls 8 [] → b_X10_lines_15 h  = some res → W p l e (zc_rm 3 0 0) s m args below meth c H locs 0 0 (MQ below (zc_Q D K b0 (zq (some (.int res.1)) N res.2)) args s 0 0 (fun q => b0 ≤ q)) (F0 m 15 ls []) := by
  have hx := hB.1
  have hb := hB.2.1
  intro H locs ls h  hG hl hf
  unfold b_X10_lines_15 at hf
  refine lv_bipush (v := -2) hx hb dX10_lines_15 (by decide) ?_
  obtain rfl := Option.some.inj hf
  exact zr_iret hB hG ⟨rfl, rfl, rfl⟩ dX10_lines_17

set_option maxRecDepth 100000 in
set_option maxHeartbeats 4000000 in
theorem w_X10_lines_144 {res : (Int32 × zh_H)} (hB : zc_B p s m args meth c cX10_lines 8 RX10 (some .int) D K) {k57 : zh_H → Nat → Int32 → Int32 → Int32 → Option (Int32 × zh_H)} (hk57 : ∀ (H : Heap) (locs : List Loc) (ls : Array Slot) (h : zh_H) (x0 : Nat) (x4 : Int32) (x5 : Int32) (x6 : Int32), zh_G D K b0 N h s.heap H locs → lv_has ls 8 [(0, .ref x0), (4, .int x4), (5, .int x5), (6, .int x6)] → k57 h x0 x4 x5 x6 = some res → W p l e (zc_rm 3 0 0) s m args below meth c H locs 0 0 (MQ below (zc_Q D K b0 (zq (some (.int res.1)) N res.2)) args s 0 0 (fun q => b0 ≤ q)) (F0 m 57 ls [])) : ∀ (H : Heap) (locs : List Loc) (ls : Array Slot) (h : zh_H) (x0 : Nat) (x4 : Int32) (x5 : Int32) (x6 : Int32), zh_G D K b0 N h s.heap H locs → lv_has ls 8 [(0, .ref x0), (4, .int x4), (5, .int x5), (6, .int x6)] → b_X10_lines_144 k57 h x0 x4 x5 x6 = some res → W p l e (zc_rm 3 0 0) s m args below meth c H locs 0 0 (MQ below (zc_Q D K b0 (zq (some (.int res.1)) N res.2)) args s 0 0 (fun q => b0 ≤ q)) (F0 m 144 ls []) := by
  have hx := hB.1
  have hb := hB.2.1
  intro H locs ls h x0 x4 x5 x6 hG hl hf
  unfold b_X10_lines_144 at hf
  refine lv_iinc (v := (x6 + (1 : Int32))) (lv' := [(6, .int (x6 + (1 : Int32))), (0, .ref x0), (4, .int x4), (5, .int x5)]) hx hb dX10_lines_144 hl (k := 3) rfl rfl (by decide) rfl (fun ls hl => ?_)
  refine lv_goto (tgt := 57) hx hb dX10_lines_147 (by decide) ?_
  exact hk57 _ _ _ h (x0) (x4) (x5) ((x6 + (1 : Int32))) hG (lv_sub hl [1, 2, 3, 0] rfl) hf

set_option maxRecDepth 100000 in
set_option maxHeartbeats 4000000 in
theorem w_X10_lines_57 {res : (Int32 × zh_H)} (hB : zc_B p s m args meth c cX10_lines 8 RX10 (some .int) D K) : ∀ n : Nat, ∀ (H : Heap) (locs : List Loc) (ls : Array Slot) (h : zh_H) (x0 : Nat) (x4 : Int32) (x5 : Int32) (x6 : Int32), zh_G D K b0 N h s.heap H locs → lv_has ls 8 [(0, .ref x0), (4, .int x4), (5, .int x5), (6, .int x6)] → b_X10_lines_57 n h x0 x4 x5 x6 = some res → W p l e (zc_rm 3 0 0) s m args below meth c H locs 0 0 (MQ below (zc_Q D K b0 (zq (some (.int res.1)) N res.2)) args s 0 0 (fun q => b0 ≤ q)) (F0 m 57 ls []) := by
  have hx := hB.1
  have hb := hB.2.1
  intro n
  induction n with
  | zero =>
    intro H locs ls h x0 x4 x5 x6 hG hl hf
    cases hf
  | succ n ih =>
    intro H locs ls h x0 x4 x5 x6 hG hl hf
    unfold b_X10_lines_57 at hf
    refine lv_iload hx hb dX10_lines_57 (lv_at hl 3 rfl) ?_
    refine lv_aload_n hx hb dX10_lines_59 rfl (lv_at hl 0 rfl) ?_
    obtain ⟨a1, ea1, hf⟩ := zb hf
    refine zr_getR hB hG zF_10 (by decide) kf_X10_18 ea1 dX10_lines_60 ?_
    obtain ⟨v2, ev2, hf⟩ := zb hf
    refine zr_getI hB hG zF_0 (by decide) kf_X10_85 ev2 dX10_lines_63 ?_
    refine lv_icmp_ge (tgt := 150) hx hb dX10_lines_66 (by decide) (fun hc25 => ?_) (fun hc25 => ?_)
    · rw [if_pos hc25] at hf
      refine lv_aload_n hx hb dX10_lines_150 rfl (lv_at hl 0 rfl) ?_
      obtain ⟨a3, ea3, hf⟩ := zb hf
      refine zr_getR hB hG zF_10 (by decide) kf_X10_73 ea3 dX10_lines_151 ?_
      obtain ⟨v4, ev4, hf⟩ := zb hf
      refine zr_getI hB hG zF_3 (by decide) kf_X10_202 ev4 dX10_lines_154 ?_
      obtain rfl := Option.some.inj hf
      exact zr_iret hB hG ⟨rfl, rfl, rfl⟩ dX10_lines_157
    · rw [if_neg hc25] at hf
      refine lv_aload_n hx hb dX10_lines_69 rfl (lv_at hl 0 rfl) ?_
      obtain ⟨a5, ea5, hf⟩ := zb hf
      refine zr_getR hB hG zF_10 (by decide) kf_X10_18 ea5 dX10_lines_70 ?_
      refine lv_iload hx hb dX10_lines_73 (lv_at hl 3 rfl) ?_
      obtain ⟨o6, eo6, hf⟩ := zb hf
      obtain ⟨v8, h7, eh7, hf⟩ := zbp_s hf
      refine zr_callV (As := [.int x6]) kc_X10_138 hB hG (c_X0_get eh7) eo6 rfl hl.1 rfl ⟨by decide, by decide⟩ (Nat.le_of_ble_eq_true rfl) ⟨by decide, by decide⟩ dX10_lines_75 (fun H locs hG => ?_)
      refine lv_istore (lv' := [(7, .int v8), (0, .ref x0), (4, .int x4), (5, .int x5), (6, .int x6)]) hx hb dX10_lines_78 hl (by decide) rfl (fun ls hl => ?_)
      refine lv_iload hx hb dX10_lines_80 (lv_at hl 0 rfl) ?_
      refine lv_bipush (v := 10) hx hb dX10_lines_82 (by decide) ?_
      refine lv_icmp_ne (tgt := 107) hx hb dX10_lines_84 (by decide) (fun hc24 => ?_) (fun hc24 => ?_)
      · rw [if_neg hc24] at hf
        refine lv_iload hx hb dX10_lines_107 (lv_at hl 3 rfl) ?_
        refine lv_if_ne (tgt := 144) hx hb dX10_lines_109 (by decide) (fun hc20 => ?_) (fun hc20 => ?_)
        · rw [if_neg hc20] at hf
          exact w_X10_lines_144 hB ih _ _ _ h7 (x0) (x4) (x5) (x6) hG (lv_sub hl [1, 2, 3, 4] rfl) hf
        · rw [if_pos hc20] at hf
          refine lv_aload_n hx hb dX10_lines_112 rfl (lv_at hl 1 rfl) ?_
          obtain ⟨a9, ea9, hf⟩ := zb hf
          refine zr_getR hB hG zF_10 (by decide) kf_X10_52 ea9 dX10_lines_113 ?_
          refine lv_iload hx hb dX10_lines_116 (lv_at hl 0 rfl) ?_
          obtain ⟨o10, eo10, hf⟩ := zb hf
          obtain ⟨h11, eh11, hf⟩ := zb hf
          refine zr_callVv (As := [.int v8]) kc_X10_156 hB hG (c_X6_feed eh11) eo10 rfl hl.1 rfl ⟨by decide, by decide⟩ (Nat.le_of_ble_eq_true rfl) ⟨by decide, by decide⟩ dX10_lines_118 (fun H locs hG => ?_)
          refine lv_aload_n hx hb dX10_lines_121 rfl (lv_at hl 1 rfl) ?_
          obtain ⟨a12, ea12, hf⟩ := zb hf
          refine zr_getR hB hG zF_10 (by decide) kf_X10_52 ea12 dX10_lines_122 ?_
          obtain ⟨o13, eo13, hf⟩ := zb hf
          obtain ⟨v15, h14, eh14, hf⟩ := zbp_s hf
          refine zr_callV (As := []) kc_X10_159 hB hG (c_X6_isHit eh14) eo13 rfl hl.1 rfl ⟨by decide, by decide⟩ (Nat.le_of_ble_eq_true rfl) ⟨by decide, by decide⟩ dX10_lines_125 (fun H locs hG => ?_)
          refine lv_istore (lv' := [(5, .int v15), (7, .int v8), (0, .ref x0), (4, .int x4), (6, .int x6)]) hx hb dX10_lines_128 hl (by decide) rfl (fun ls hl => ?_)
          refine lv_iload hx hb dX10_lines_130 (lv_at hl 0 rfl) ?_
          refine lv_if_eq (tgt := 144) hx hb dX10_lines_132 (by decide) (fun hc19 => ?_) (fun hc19 => ?_)
          · rw [if_pos hc19] at hf
            exact w_X10_lines_144 hB ih _ _ _ h14 (x0) (x4) (v15) (x6) hG (lv_sub hl [2, 3, 0, 4] rfl) hf
          · rw [if_neg hc19] at hf
            refine lv_aload_n hx hb dX10_lines_135 rfl (lv_at hl 2 rfl) ?_
            obtain ⟨a16, ea16, hf⟩ := zb hf
            refine zr_getR hB hG zF_10 (by decide) kf_X10_73 ea16 dX10_lines_136 ?_
            refine lv_iload hx hb dX10_lines_139 (lv_at hl 3 rfl) ?_
            obtain ⟨o17, eo17, hf⟩ := zb hf
            obtain ⟨h18, eh18, hf⟩ := zb hf
            refine zr_callVv (As := [.int x4]) kc_X10_201 hB hG (c_X3_add eh18) eo17 rfl hl.1 rfl ⟨by decide, by decide⟩ (Nat.le_of_ble_eq_true rfl) ⟨by decide, by decide⟩ dX10_lines_141 (fun H locs hG => ?_)
            exact w_X10_lines_144 hB ih _ _ _ h18 (x0) (x4) (v15) (x6) hG (lv_sub hl [2, 3, 0, 4] rfl) hf
      · rw [if_pos hc24] at hf
        refine lv_iinc (v := (x4 + (1 : Int32))) (lv' := [(4, .int (x4 + (1 : Int32))), (7, .int v8), (0, .ref x0), (5, .int x5), (6, .int x6)]) hx hb dX10_lines_87 hl (k := 2) rfl rfl (by decide) rfl (fun ls hl => ?_)
        refine lv_iconst (v := 0) hx hb dX10_lines_90 (by decide) ?_
        refine lv_istore (lv' := [(5, .int (0 : Int32)), (4, .int (x4 + (1 : Int32))), (7, .int v8), (0, .ref x0), (6, .int x6)]) hx hb dX10_lines_91 hl (by decide) rfl (fun ls hl => ?_)
        refine lv_aload_n hx hb dX10_lines_93 rfl (lv_at hl 3 rfl) ?_
        obtain ⟨a21, ea21, hf⟩ := zb hf
        refine zr_getR hB hG zF_10 (by decide) kf_X10_52 ea21 dX10_lines_94 ?_
        refine lv_iload hx hb dX10_lines_97 (lv_at hl 4 rfl) ?_
        refine lv_iconst (v := 1) hx hb dX10_lines_99 (by decide) ?_
        refine lv_iadd hx hb dX10_lines_100 ?_
        obtain ⟨o22, eo22, hf⟩ := zb hf
        obtain ⟨h23, eh23, hf⟩ := zb hf
        refine zr_callVv (As := [.int (x6 + (1 : Int32))]) kc_X10_153 hB hG (c_X6_restart eh23) eo22 rfl hl.1 rfl ⟨by decide, by decide⟩ (Nat.le_of_ble_eq_true rfl) ⟨by decide, by decide⟩ dX10_lines_101 (fun H locs hG => ?_)
        refine lv_goto (tgt := 144) hx hb dX10_lines_104 (by decide) ?_
        exact w_X10_lines_144 hB ih _ _ _ h23 (x0) ((x4 + (1 : Int32))) ((0 : Int32)) (x6) hG (lv_sub hl [3, 1, 0, 4] rfl) hf

set_option maxRecDepth 100000 in
set_option maxHeartbeats 4000000 in
theorem w_X10_lines_0 {res : (Int32 × zh_H)} (hB : zc_B p s m args meth c cX10_lines 8 RX10 (some .int) D K) : ∀ (H : Heap) (locs : List Loc) (ls : Array Slot) (h : zh_H) (x0 : Nat) (x1 : Int32) (x2 : Int32) (x3 : Int32), zh_G D K b0 N h s.heap H locs → lv_has ls 8 [(0, .ref x0), (1, .int x1), (2, .int x2), (3, .int x3)] → b_X10_lines_0 h x0 x1 x2 x3 = some res → W p l e (zc_rm 3 0 0) s m args below meth c H locs 0 0 (MQ below (zc_Q D K b0 (zq (some (.int res.1)) N res.2)) args s 0 0 (fun q => b0 ≤ q)) (F0 m 0 ls []) := by
  have hx := hB.1
  have hb := hB.2.1
  intro H locs ls h x0 x1 x2 x3 hG hl hf
  unfold b_X10_lines_0 at hf
  refine lv_aload_n hx hb dX10_lines_0 rfl (lv_at hl 0 rfl) ?_
  refine lv_iload_n hx hb dX10_lines_1 rfl (lv_at hl 1 rfl) ?_
  obtain ⟨o1, eo1, hf⟩ := zb hf
  obtain ⟨v3, h2, eh2, hf⟩ := zbp_s hf
  refine zr_callV (As := [.int x1]) kc_X10_113 hB hG (c_X10_isPattern eh2) eo1 rfl hl.1 rfl ⟨by decide, by decide⟩ (Nat.le_of_ble_eq_true rfl) ⟨by decide, by decide⟩ dX10_lines_2 (fun H locs hG => ?_)
  refine lv_if_eq (tgt := 15) hx hb dX10_lines_5 (by decide) (fun hc18 => ?_) (fun hc18 => ?_)
  · rw [if_pos hc18] at hf
    exact w_X10_lines_15 hB _ _ _ h2  hG (lv_sub hl [] rfl) hf
  · rw [if_neg hc18] at hf
    refine lv_iload_n hx hb dX10_lines_8 rfl (lv_at hl 2 rfl) ?_
    obtain ⟨v5, h4, eh4, hf⟩ := zbp_s hf
    refine zr_callS (As := [.int x2]) kc_X10_142 hB hG (c_X10_isEdits eh4) rfl hl.1 rfl ⟨by decide, by decide⟩ (Nat.le_of_ble_eq_true rfl) ⟨by decide, by decide⟩ dX10_lines_9 (fun H locs hG => ?_)
    refine lv_if_ne (tgt := 18) hx hb dX10_lines_12 (by decide) (fun hc17 => ?_) (fun hc17 => ?_)
    · rw [if_neg hc17] at hf
      refine lv_aload_n hx hb dX10_lines_18 rfl (lv_at hl 0 rfl) ?_
      obtain ⟨a6, ea6, hf⟩ := zb hf
      refine zr_getR hB hG zF_10 (by decide) kf_X10_73 ea6 dX10_lines_19 ?_
      obtain ⟨o7, eo7, hf⟩ := zb hf
      obtain ⟨h8, eh8, hf⟩ := zb hf
      refine zr_callVv (As := []) kc_X10_200 hB hG (c_X3_clear eh8) eo7 rfl hl.1 rfl ⟨by decide, by decide⟩ (Nat.le_of_ble_eq_true rfl) ⟨by decide, by decide⟩ dX10_lines_22 (fun H locs hG => ?_)
      refine lv_aload_n hx hb dX10_lines_25 rfl (lv_at hl 0 rfl) ?_
      obtain ⟨a9, ea9, hf⟩ := zb hf
      refine zr_getR hB hG zF_10 (by decide) kf_X10_52 ea9 dX10_lines_26 ?_
      refine lv_aload_n hx hb dX10_lines_29 rfl (lv_at hl 0 rfl) ?_
      obtain ⟨a10, ea10, hf⟩ := zb hf
      refine zr_getR hB hG zF_10 (by decide) kf_X10_33 ea10 dX10_lines_30 ?_
      refine lv_iload_n hx hb dX10_lines_33 rfl (lv_at hl 1 rfl) ?_
      obtain ⟨a11, ea11, hf⟩ := zb hf
      refine zr_aald ⟨_, rfl⟩ hB hG ea11 dX10_lines_34 ?_
      refine lv_iload_n hx hb dX10_lines_35 rfl (lv_at hl 2 rfl) ?_
      refine lv_iload_n hx hb dX10_lines_36 rfl (lv_at hl 3 rfl) ?_
      obtain ⟨o12, eo12, hf⟩ := zb hf
      obtain ⟨h13, eh13, hf⟩ := zb hf
      refine zr_callVv (As := [.ref a11, .int x2, .int x3]) kc_X10_149 hB hG (c_X6_aim eh13) eo12 rfl hl.1 rfl ⟨by decide, by decide⟩ (Nat.le_of_ble_eq_true rfl) ⟨by decide, by decide⟩ dX10_lines_37 (fun H locs hG => ?_)
      refine lv_aload_n hx hb dX10_lines_40 rfl (lv_at hl 0 rfl) ?_
      obtain ⟨a14, ea14, hf⟩ := zb hf
      refine zr_getR hB hG zF_10 (by decide) kf_X10_52 ea14 dX10_lines_41 ?_
      refine lv_iconst (v := 0) hx hb dX10_lines_44 (by decide) ?_
      obtain ⟨o15, eo15, hf⟩ := zb hf
      obtain ⟨h16, eh16, hf⟩ := zb hf
      refine zr_callVv (As := [.int (0 : Int32)]) kc_X10_153 hB hG (c_X6_restart eh16) eo15 rfl hl.1 rfl ⟨by decide, by decide⟩ (Nat.le_of_ble_eq_true rfl) ⟨by decide, by decide⟩ dX10_lines_45 (fun H locs hG => ?_)
      refine lv_iconst (v := 0) hx hb dX10_lines_48 (by decide) ?_
      refine lv_istore (lv' := [(4, .int (0 : Int32)), (0, .ref x0), (1, .int x1), (2, .int x2), (3, .int x3)]) hx hb dX10_lines_49 hl (by decide) rfl (fun ls hl => ?_)
      refine lv_iconst (v := 0) hx hb dX10_lines_51 (by decide) ?_
      refine lv_istore (lv' := [(5, .int (0 : Int32)), (4, .int (0 : Int32)), (0, .ref x0), (1, .int x1), (2, .int x2), (3, .int x3)]) hx hb dX10_lines_52 hl (by decide) rfl (fun ls hl => ?_)
      refine lv_iconst (v := 0) hx hb dX10_lines_54 (by decide) ?_
      refine lv_istore (lv' := [(6, .int (0 : Int32)), (5, .int (0 : Int32)), (4, .int (0 : Int32)), (0, .ref x0), (1, .int x1), (2, .int x2), (3, .int x3)]) hx hb dX10_lines_55 hl (by decide) rfl (fun ls hl => ?_)
      exact w_X10_lines_57 hB zFuel _ _ _ h16 (x0) ((0 : Int32)) ((0 : Int32)) ((0 : Int32)) hG (lv_sub hl [3, 2, 1, 0] rfl) hf
    · rw [if_pos hc17] at hf
      exact w_X10_lines_15 hB _ _ _ h4  hG (lv_sub hl [] rfl) hf
end G_X10_lines
theorem c_X10_lines {l : Launch} {D : va_G} {K : Nat → ClassId} {b0 N : Nat} {h : zh_H} {x0 : Nat} {x1 : Int32} {x2 : Int32} {x3 : Int32} {r : Int32} {h2 : zh_H} (hf : b_X10_lines_0 h x0 x1 x2 x3 = some (r, h2)) : zc l yX10_lines cX10_lines 8 (some .int) 3 0 0 D K b0 N h [.ref x0, .int x1, .int x2, .int x3] (zq (some (.int r)) N h2) := by
  refine zc.of [(0, .ref x0), (1, .int x1), (2, .int x2), (3, .int x3)] (by decide) rfl (Nat.le_of_ble_eq_true rfl) ?_
  intro p e s m args below meth c hB hnm hG ls hl
  exact w_X10_lines_0 (res := (r, h2)) hB _ _ ls h x0 x1 x2 x3 hG (lv_sub hl [0, 1, 2, 3] rfl) hf

