section G_X11_hit
variable {p : Program} {l : Launch} {e : Env} {s : State} {m : MethodId} {args : Array Value} {below : List Frame} {meth : Method} {c : Code} {D : va_G} {K : Nat → ClassId} {b0 N : Nat}
set_option maxRecDepth 100000 in
set_option maxHeartbeats 4000000 in
theorem w_X11_hit_23 {res : (Int32 × zh_H)} (hB : zc_B p s m args meth c cX11_hit 3 RX11 (some .int) D K) : ∀ (H : Heap) (locs : List Loc) (ls : Array Slot) (h : zh_H), zh_G D K b0 N h s.heap H locs → lv_has ls 3 [] → b_X11_hit_23 h  = some res → W p l e (zc_rm 3 0 0) s m args below meth c H locs 0 0 (MQ below (zc_Q D K b0 (zq (some (.int res.1)) N res.2)) args s 0 0 (fun q => b0 ≤ q)) (F0 m 23 ls []) := by
  have hx := hB.1
  have hb := hB.2.1
  intro H locs ls h  hG hl hf
  unfold b_X11_hit_23 at hf
  refine lv_bipush (v := -2) hx hb dX11_hit_23 (by decide) ?_
  obtain rfl := Option.some.inj hf
  exact zr_iret hB hG ⟨rfl, rfl, rfl⟩ dX11_hit_25

set_option maxRecDepth 100000 in
set_option maxHeartbeats 4000000 in
theorem w_X11_hit_74 {res : (Int32 × zh_H)} (hB : zc_B p s m args meth c cX11_hit 3 RX11 (some .int) D K) : ∀ (H : Heap) (locs : List Loc) (ls : Array Slot) (h : zh_H) (y0 : Int32), zh_G D K b0 N h s.heap H locs → lv_has ls 3 [] → b_X11_hit_74 h y0 = some res → W p l e (zc_rm 3 0 0) s m args below meth c H locs 0 0 (MQ below (zc_Q D K b0 (zq (some (.int res.1)) N res.2)) args s 0 0 (fun q => b0 ≤ q)) (F0 m 74 ls [.int y0]) := by
  have hx := hB.1
  have hb := hB.2.1
  intro H locs ls h y0 hG hl hf
  unfold b_X11_hit_74 at hf
  obtain rfl := Option.some.inj hf
  exact zr_iret hB hG ⟨rfl, rfl, rfl⟩ dX11_hit_74

set_option maxRecDepth 100000 in
set_option maxHeartbeats 4000000 in
theorem w_X11_hit_0 {res : (Int32 × zh_H)} (hB : zc_B p s m args meth c cX11_hit 3 RX11 (some .int) D K) : ∀ (H : Heap) (locs : List Loc) (ls : Array Slot) (h : zh_H) (x0 : Nat) (x1 : Int32) (x2 : Int32), zh_G D K b0 N h s.heap H locs → lv_has ls 3 [(0, .ref x0), (1, .int x1), (2, .int x2)] → b_X11_hit_0 h x0 x1 x2 = some res → W p l e (zc_rm 3 0 0) s m args below meth c H locs 0 0 (MQ below (zc_Q D K b0 (zq (some (.int res.1)) N res.2)) args s 0 0 (fun q => b0 ≤ q)) (F0 m 0 ls []) := by
  have hx := hB.1
  have hb := hB.2.1
  intro H locs ls h x0 x1 x2 hG hl hf
  unfold b_X11_hit_0 at hf
  refine lv_iload_n hx hb dX11_hit_0 rfl (lv_at hl 1 rfl) ?_
  refine lv_iconst (v := 0) hx hb dX11_hit_1 (by decide) ?_
  refine lv_aload_n hx hb dX11_hit_2 rfl (lv_at hl 0 rfl) ?_
  obtain ⟨v1, ev1, hf⟩ := zb hf
  refine zr_getI hB hG zF_11 (by decide) kf_X11_205 ev1 dX11_hit_3 ?_
  refine lv_iconst (v := 1) hx hb dX11_hit_6 (by decide) ?_
  refine lv_isub hx hb dX11_hit_7 ?_
  obtain ⟨v3, h2, eh2, hf⟩ := zbp_s hf
  refine zr_callS (As := [.int x1, .int (0 : Int32), .int (v1 - (1 : Int32))]) kc_X11_100 hB hG (c_X11_in eh2) rfl hl.1 rfl ⟨by decide, by decide⟩ (Nat.le_of_ble_eq_true rfl) ⟨by decide, by decide⟩ dX11_hit_8 (fun H locs hG => ?_)
  refine lv_if_eq (tgt := 23) hx hb dX11_hit_11 (by decide) (fun hc19 => ?_) (fun hc19 => ?_)
  · rw [if_pos hc19] at hf
    exact w_X11_hit_23 hB _ _ _ h2  hG (lv_sub hl [] rfl) hf
  · rw [if_neg hc19] at hf
    refine lv_iload_n hx hb dX11_hit_14 rfl (lv_at hl 2 rfl) ?_
    refine lv_iconst (v := 0) hx hb dX11_hit_15 (by decide) ?_
    refine lv_iconst (v := 3) hx hb dX11_hit_16 (by decide) ?_
    obtain ⟨v5, h4, eh4, hf⟩ := zbp_s hf
    refine zr_callS (As := [.int x2, .int (0 : Int32), .int (3 : Int32)]) kc_X11_100 hB hG (c_X11_in eh4) rfl hl.1 rfl ⟨by decide, by decide⟩ (Nat.le_of_ble_eq_true rfl) ⟨by decide, by decide⟩ dX11_hit_17 (fun H locs hG => ?_)
    refine lv_if_ne (tgt := 26) hx hb dX11_hit_20 (by decide) (fun hc18 => ?_) (fun hc18 => ?_)
    · rw [if_neg hc18] at hf
      refine lv_iload_n hx hb dX11_hit_26 rfl (lv_at hl 2 rfl) ?_
      refine lv_iconst (v := 3) hx hb dX11_hit_27 (by decide) ?_
      refine lv_icmp_ne (tgt := 41) hx hb dX11_hit_28 (by decide) (fun hc17 => ?_) (fun hc17 => ?_)
      · rw [if_neg hc17] at hf
        refine lv_iload_n hx hb dX11_hit_41 rfl (lv_at hl 2 rfl) ?_
        refine lv_if_ne (tgt := 54) hx hb dX11_hit_42 (by decide) (fun hc13 => ?_) (fun hc13 => ?_)
        · rw [if_neg hc13] at hf
          refine lv_iload_n hx hb dX11_hit_54 rfl (lv_at hl 2 rfl) ?_
          refine lv_iconst (v := 1) hx hb dX11_hit_55 (by decide) ?_
          refine lv_icmp_ne (tgt := 68) hx hb dX11_hit_56 (by decide) (fun hc10 => ?_) (fun hc10 => ?_)
          · rw [if_neg hc10] at hf
            refine lv_aload_n hx hb dX11_hit_68 rfl (lv_at hl 0 rfl) ?_
            obtain ⟨a6, ea6, hf⟩ := zb hf
            refine zr_getR hB hG zF_11 (by decide) kf_X11_75 ea6 dX11_hit_69 ?_
            refine lv_iload_n hx hb dX11_hit_72 rfl (lv_at hl 1 rfl) ?_
            obtain ⟨v7, ev7, hf⟩ := zb hf
            refine zr_iald hB hG ev7 dX11_hit_73 ?_
            exact w_X11_hit_74 hB _ _ _ h4 (v7) hG (lv_sub hl [] rfl) hf
          · rw [if_pos hc10] at hf
            refine lv_aload_n hx hb dX11_hit_59 rfl (lv_at hl 0 rfl) ?_
            obtain ⟨a8, ea8, hf⟩ := zb hf
            refine zr_getR hB hG zF_11 (by decide) kf_X11_72 ea8 dX11_hit_60 ?_
            refine lv_iload_n hx hb dX11_hit_63 rfl (lv_at hl 1 rfl) ?_
            obtain ⟨v9, ev9, hf⟩ := zb hf
            refine zr_iald hB hG ev9 dX11_hit_64 ?_
            refine lv_goto (tgt := 74) hx hb dX11_hit_65 (by decide) ?_
            exact w_X11_hit_74 hB _ _ _ h4 (v9) hG (lv_sub hl [] rfl) hf
        · rw [if_pos hc13] at hf
          refine lv_aload_n hx hb dX11_hit_45 rfl (lv_at hl 0 rfl) ?_
          obtain ⟨a11, ea11, hf⟩ := zb hf
          refine zr_getR hB hG zF_11 (by decide) kf_X11_69 ea11 dX11_hit_46 ?_
          refine lv_iload_n hx hb dX11_hit_49 rfl (lv_at hl 1 rfl) ?_
          obtain ⟨v12, ev12, hf⟩ := zb hf
          refine zr_iald hB hG ev12 dX11_hit_50 ?_
          refine lv_goto (tgt := 74) hx hb dX11_hit_51 (by decide) ?_
          exact w_X11_hit_74 hB _ _ _ h4 (v12) hG (lv_sub hl [] rfl) hf
      · rw [if_pos hc17] at hf
        refine lv_aload_n hx hb dX11_hit_31 rfl (lv_at hl 0 rfl) ?_
        refine lv_iload_n hx hb dX11_hit_32 rfl (lv_at hl 1 rfl) ?_
        obtain ⟨o14, eo14, hf⟩ := zb hf
        obtain ⟨h15, eh15, hf⟩ := zb hf
        refine zr_callVv (As := [.int x1]) kc_X11_217 hB hG (c_X11_findSteps eh15) eo14 rfl hl.1 rfl ⟨by decide, by decide⟩ (Nat.le_of_ble_eq_true rfl) ⟨by decide, by decide⟩ dX11_hit_33 (fun H locs hG => ?_)
        refine lv_aload_n hx hb dX11_hit_36 rfl (lv_at hl 0 rfl) ?_
        obtain ⟨v16, ev16, hf⟩ := zb hf
        refine zr_getI hB hG zF_11 (by decide) kf_X11_214 ev16 dX11_hit_37 ?_
        obtain rfl := Option.some.inj hf
        exact zr_iret hB hG ⟨rfl, rfl, rfl⟩ dX11_hit_40
    · rw [if_pos hc18] at hf
      exact w_X11_hit_23 hB _ _ _ h4  hG (lv_sub hl [] rfl) hf
end G_X11_hit
theorem c_X11_hit {l : Launch} {D : va_G} {K : Nat → ClassId} {b0 N : Nat} {h : zh_H} {x0 : Nat} {x1 : Int32} {x2 : Int32} {r : Int32} {h2 : zh_H} (hf : b_X11_hit_0 h x0 x1 x2 = some (r, h2)) : zc l yX11_hit cX11_hit 3 (some .int) 3 0 0 D K b0 N h [.ref x0, .int x1, .int x2] (zq (some (.int r)) N h2) := by
  refine zc.of [(0, .ref x0), (1, .int x1), (2, .int x2)] (by decide) rfl (Nat.le_of_ble_eq_true rfl) ?_
  intro p e s m args below meth c hB hnm hG ls hl
  exact w_X11_hit_0 (res := (r, h2)) hB _ _ ls h x0 x1 x2 hG (lv_sub hl [0, 1, 2] rfl) hf

section G_X11_init
variable {p : Program} {l : Launch} {e : Env} {s : State} {m : MethodId} {args : Array Value} {below : List Frame} {meth : Method} {c : Code} {D : va_G} {K : Nat → ClassId} {b0 zz : Nat}
set_option maxRecDepth 100000 in
set_option maxHeartbeats 4000000 in
theorem w_X11_init_0 {res : (Nat × zh_H)} (hB : zc_B p s m args meth c cX11_init 1 RX11 none D K) (hnm : meth.name = "<init>") : ∀ (H : Heap) (locs : List Loc) (ls : Array Slot) (N cs sl : Nat) (h : zh_H) (x0 : Nat), zh_G D K b0 N h s.heap H locs → lv_has ls 1 [(0, .ref x0)] → b_X11_init_0 N cs sl h x0 = some res → W p l e (zc_rm 1 28 117322) s m args below meth c H locs cs sl (MQ below (zc_Q D K b0 (zq none res.1 res.2)) args s 28 117322 (fun q => b0 ≤ q)) (F0 m 0 ls []) := by
  have hx := hB.1
  have hb := hB.2.1
  intro H locs ls N cs sl h x0 hG hl hf
  unfold b_X11_init_0 at hf
  refine lv_aload_n hx hb dX11_init_0 rfl (lv_at hl 0 rfl) ?_
  refine zr_oinit km_X11_1 k_oi k_oc hl.1 hB dX11_init_1 (by decide) (Nat.le_of_ble_eq_true rfl) ?_
  refine lv_aload_n hx hb dX11_init_4 rfl (lv_at hl 0 rfl) ?_
  refine lv_sipush (v := 400) hx hb dX11_init_5 (by decide) ?_
  obtain ⟨hz, hf⟩ := zif_s hf
  refine zr_newa (t := 1) (atype := .int) (a0 := ((Int32.toNatClampNeg (400 : Int32)), .inl (fun _ => 0))) ka_1 rfl rfl hB hG (fun _ => rfl) zh_ok_i hz.1 hz.2 dX11_init_8 (fun H hG => ?_)
  obtain ⟨h1, eh1, hf⟩ := zb hf
  refine zr_putF hB hG zF_11 (by decide) kf_X11_7 rfl hnm rfl rfl rfl eh1 dX11_init_10 (fun H locs hG => ?_)
  refine lv_aload_n hx hb dX11_init_13 rfl (lv_at hl 0 rfl) ?_
  refine lv_sipush (v := 1500) hx hb dX11_init_14 (by decide) ?_
  obtain ⟨hz, hf⟩ := zif_s hf
  refine zr_newa (t := 1) (atype := .int) (a0 := ((Int32.toNatClampNeg (1500 : Int32)), .inl (fun _ => 0))) ka_1 rfl rfl hB hG (fun _ => rfl) zh_ok_i hz.1 hz.2 dX11_init_17 (fun H hG => ?_)
  obtain ⟨h2, eh2, hf⟩ := zb hf
  refine zr_putF hB hG zF_11 (by decide) kf_X11_13 rfl hnm rfl rfl rfl eh2 dX11_init_19 (fun H locs hG => ?_)
  refine lv_aload_n hx hb dX11_init_22 rfl (lv_at hl 0 rfl) ?_
  refine lv_sipush (v := 7500) hx hb dX11_init_23 (by decide) ?_
  obtain ⟨hz, hf⟩ := zif_s hf
  refine zr_newa (t := 1) (atype := .int) (a0 := ((Int32.toNatClampNeg (7500 : Int32)), .inl (fun _ => 0))) ka_1 rfl rfl hB hG (fun _ => rfl) zh_ok_i hz.1 hz.2 dX11_init_26 (fun H hG => ?_)
  obtain ⟨h3, eh3, hf⟩ := zb hf
  refine zr_putF hB hG zF_11 (by decide) kf_X11_16 rfl hnm rfl rfl rfl eh3 dX11_init_28 (fun H locs hG => ?_)
  refine lv_aload_n hx hb dX11_init_31 rfl (lv_at hl 0 rfl) ?_
  refine lv_iconst (v := 5) hx hb dX11_init_32 (by decide) ?_
  obtain ⟨hz, hf⟩ := zif_s hf
  refine zr_newa (t := 1) (atype := .int) (a0 := ((Int32.toNatClampNeg (5 : Int32)), .inl (fun _ => 0))) ka_1 rfl rfl hB hG (fun _ => rfl) zh_ok_i hz.1 hz.2 dX11_init_33 (fun H hG => ?_)
  obtain ⟨h4, eh4, hf⟩ := zb hf
  refine zr_putF hB hG zF_11 (by decide) kf_X11_19 rfl hnm rfl rfl rfl eh4 dX11_init_35 (fun H locs hG => ?_)
  refine lv_aload_n hx hb dX11_init_38 rfl (lv_at hl 0 rfl) ?_
  refine lv_sipush (v := 1600) hx hb dX11_init_39 (by decide) ?_
  obtain ⟨hz, hf⟩ := zif_s hf
  refine zr_newa (t := 2) (atype := .long) (a0 := ((Int32.toNatClampNeg (1600 : Int32)), .inr (.inl (fun _ => 0)))) ka_2 rfl rfl hB hG (fun _ => rfl) zh_ok_l hz.1 hz.2 dX11_init_42 (fun H hG => ?_)
  obtain ⟨h5, eh5, hf⟩ := zb hf
  refine zr_putF hB hG zF_11 (by decide) kf_X11_22 rfl hnm rfl rfl rfl eh5 dX11_init_44 (fun H locs hG => ?_)
  refine lv_aload_n hx hb dX11_init_47 rfl (lv_at hl 0 rfl) ?_
  refine lv_sipush (v := 1600) hx hb dX11_init_48 (by decide) ?_
  obtain ⟨hz, hf⟩ := zif_s hf
  refine zr_newa (t := 2) (atype := .long) (a0 := ((Int32.toNatClampNeg (1600 : Int32)), .inr (.inl (fun _ => 0)))) ka_2 rfl rfl hB hG (fun _ => rfl) zh_ok_l hz.1 hz.2 dX11_init_51 (fun H hG => ?_)
  obtain ⟨h6, eh6, hf⟩ := zb hf
  refine zr_putF hB hG zF_11 (by decide) kf_X11_26 rfl hnm rfl rfl rfl eh6 dX11_init_53 (fun H locs hG => ?_)
  refine lv_aload_n hx hb dX11_init_56 rfl (lv_at hl 0 rfl) ?_
  refine lv_bipush (v := 8) hx hb dX11_init_57 (by decide) ?_
  obtain ⟨hz, hf⟩ := zif_s hf
  refine zr_newa (t := 1) (atype := .int) (a0 := ((Int32.toNatClampNeg (8 : Int32)), .inl (fun _ => 0))) ka_1 rfl rfl hB hG (fun _ => rfl) zh_ok_i hz.1 hz.2 dX11_init_59 (fun H hG => ?_)
  obtain ⟨h7, eh7, hf⟩ := zb hf
  refine zr_putF hB hG zF_11 (by decide) kf_X11_29 rfl hnm rfl rfl rfl eh7 dX11_init_61 (fun H locs hG => ?_)
  refine lv_aload_n hx hb dX11_init_64 rfl (lv_at hl 0 rfl) ?_
  refine lv_iconst (v := -1) hx hb dX11_init_65 (by decide) ?_
  obtain ⟨h8, eh8, hf⟩ := zb hf
  refine zr_put hB hG zF_11 (by decide) kf_X11_32 rfl rfl rfl eh8 dX11_init_66 (fun H locs hG => ?_)
  refine lv_aload_n hx hb dX11_init_69 rfl (lv_at hl 0 rfl) ?_
  refine lv_sipush (v := 200) hx hb dX11_init_70 (by decide) ?_
  obtain ⟨hz, hf⟩ := zif_s hf
  refine zr_newa (t := 2) (atype := .long) (a0 := ((Int32.toNatClampNeg (200 : Int32)), .inr (.inl (fun _ => 0)))) ka_2 rfl rfl hB hG (fun _ => rfl) zh_ok_l hz.1 hz.2 dX11_init_73 (fun H hG => ?_)
  obtain ⟨h9, eh9, hf⟩ := zb hf
  refine zr_putF hB hG zF_11 (by decide) kf_X11_36 rfl hnm rfl rfl rfl eh9 dX11_init_75 (fun H locs hG => ?_)
  refine lv_aload_n hx hb dX11_init_78 rfl (lv_at hl 0 rfl) ?_
  refine lv_sipush (v := 200) hx hb dX11_init_79 (by decide) ?_
  obtain ⟨hz, hf⟩ := zif_s hf
  refine zr_newa (t := 2) (atype := .long) (a0 := ((Int32.toNatClampNeg (200 : Int32)), .inr (.inl (fun _ => 0)))) ka_2 rfl rfl hB hG (fun _ => rfl) zh_ok_l hz.1 hz.2 dX11_init_82 (fun H hG => ?_)
  obtain ⟨h10, eh10, hf⟩ := zb hf
  refine zr_putF hB hG zF_11 (by decide) kf_X11_39 rfl hnm rfl rfl rfl eh10 dX11_init_84 (fun H locs hG => ?_)
  refine lv_aload_n hx hb dX11_init_87 rfl (lv_at hl 0 rfl) ?_
  refine lv_sipush (v := 1500) hx hb dX11_init_88 (by decide) ?_
  obtain ⟨hz, hf⟩ := zif_s hf
  refine zr_newa (t := 2) (atype := .long) (a0 := ((Int32.toNatClampNeg (1500 : Int32)), .inr (.inl (fun _ => 0)))) ka_2 rfl rfl hB hG (fun _ => rfl) zh_ok_l hz.1 hz.2 dX11_init_91 (fun H hG => ?_)
  obtain ⟨h11, eh11, hf⟩ := zb hf
  refine zr_putF hB hG zF_11 (by decide) kf_X11_42 rfl hnm rfl rfl rfl eh11 dX11_init_93 (fun H locs hG => ?_)
  refine lv_aload_n hx hb dX11_init_96 rfl (lv_at hl 0 rfl) ?_
  refine lv_sipush (v := 1500) hx hb dX11_init_97 (by decide) ?_
  obtain ⟨hz, hf⟩ := zif_s hf
  refine zr_newa (t := 2) (atype := .long) (a0 := ((Int32.toNatClampNeg (1500 : Int32)), .inr (.inl (fun _ => 0)))) ka_2 rfl rfl hB hG (fun _ => rfl) zh_ok_l hz.1 hz.2 dX11_init_100 (fun H hG => ?_)
  obtain ⟨h12, eh12, hf⟩ := zb hf
  refine zr_putF hB hG zF_11 (by decide) kf_X11_45 rfl hnm rfl rfl rfl eh12 dX11_init_102 (fun H locs hG => ?_)
  refine lv_aload_n hx hb dX11_init_105 rfl (lv_at hl 0 rfl) ?_
  refine lv_sipush (v := 1500) hx hb dX11_init_106 (by decide) ?_
  obtain ⟨hz, hf⟩ := zif_s hf
  refine zr_newa (t := 1) (atype := .int) (a0 := ((Int32.toNatClampNeg (1500 : Int32)), .inl (fun _ => 0))) ka_1 rfl rfl hB hG (fun _ => rfl) zh_ok_i hz.1 hz.2 dX11_init_109 (fun H hG => ?_)
  obtain ⟨h13, eh13, hf⟩ := zb hf
  refine zr_putF hB hG zF_11 (by decide) kf_X11_48 rfl hnm rfl rfl rfl eh13 dX11_init_111 (fun H locs hG => ?_)
  refine lv_aload_n hx hb dX11_init_114 rfl (lv_at hl 0 rfl) ?_
  refine lv_sipush (v := 1501) hx hb dX11_init_115 (by decide) ?_
  obtain ⟨hz, hf⟩ := zif_s hf
  refine zr_newa (t := 1) (atype := .int) (a0 := ((Int32.toNatClampNeg (1501 : Int32)), .inl (fun _ => 0))) ka_1 rfl rfl hB hG (fun _ => rfl) zh_ok_i hz.1 hz.2 dX11_init_118 (fun H hG => ?_)
  obtain ⟨h14, eh14, hf⟩ := zb hf
  refine zr_putF hB hG zF_11 (by decide) kf_X11_51 rfl hnm rfl rfl rfl eh14 dX11_init_120 (fun H locs hG => ?_)
  refine lv_aload_n hx hb dX11_init_123 rfl (lv_at hl 0 rfl) ?_
  refine lv_sipush (v := 1501) hx hb dX11_init_124 (by decide) ?_
  obtain ⟨hz, hf⟩ := zif_s hf
  refine zr_newa (t := 1) (atype := .int) (a0 := ((Int32.toNatClampNeg (1501 : Int32)), .inl (fun _ => 0))) ka_1 rfl rfl hB hG (fun _ => rfl) zh_ok_i hz.1 hz.2 dX11_init_127 (fun H hG => ?_)
  obtain ⟨h15, eh15, hf⟩ := zb hf
  refine zr_putF hB hG zF_11 (by decide) kf_X11_54 rfl hnm rfl rfl rfl eh15 dX11_init_129 (fun H locs hG => ?_)
  refine lv_aload_n hx hb dX11_init_132 rfl (lv_at hl 0 rfl) ?_
  refine lv_sipush (v := 1501) hx hb dX11_init_133 (by decide) ?_
  obtain ⟨hz, hf⟩ := zif_s hf
  refine zr_newa (t := 1) (atype := .int) (a0 := ((Int32.toNatClampNeg (1501 : Int32)), .inl (fun _ => 0))) ka_1 rfl rfl hB hG (fun _ => rfl) zh_ok_i hz.1 hz.2 dX11_init_136 (fun H hG => ?_)
  obtain ⟨h16, eh16, hf⟩ := zb hf
  refine zr_putF hB hG zF_11 (by decide) kf_X11_57 rfl hnm rfl rfl rfl eh16 dX11_init_138 (fun H locs hG => ?_)
  refine lv_aload_n hx hb dX11_init_141 rfl (lv_at hl 0 rfl) ?_
  refine lv_sipush (v := 1501) hx hb dX11_init_142 (by decide) ?_
  obtain ⟨hz, hf⟩ := zif_s hf
  refine zr_newa (t := 1) (atype := .int) (a0 := ((Int32.toNatClampNeg (1501 : Int32)), .inl (fun _ => 0))) ka_1 rfl rfl hB hG (fun _ => rfl) zh_ok_i hz.1 hz.2 dX11_init_145 (fun H hG => ?_)
  obtain ⟨h17, eh17, hf⟩ := zb hf
  refine zr_putF hB hG zF_11 (by decide) kf_X11_60 rfl hnm rfl rfl rfl eh17 dX11_init_147 (fun H locs hG => ?_)
  refine lv_aload_n hx hb dX11_init_150 rfl (lv_at hl 0 rfl) ?_
  refine lv_sipush (v := 1501) hx hb dX11_init_151 (by decide) ?_
  obtain ⟨hz, hf⟩ := zif_s hf
  refine zr_newa (t := 1) (atype := .int) (a0 := ((Int32.toNatClampNeg (1501 : Int32)), .inl (fun _ => 0))) ka_1 rfl rfl hB hG (fun _ => rfl) zh_ok_i hz.1 hz.2 dX11_init_154 (fun H hG => ?_)
  obtain ⟨h18, eh18, hf⟩ := zb hf
  refine zr_putF hB hG zF_11 (by decide) kf_X11_63 rfl hnm rfl rfl rfl eh18 dX11_init_156 (fun H locs hG => ?_)
  refine lv_aload_n hx hb dX11_init_159 rfl (lv_at hl 0 rfl) ?_
  refine lv_sipush (v := 1501) hx hb dX11_init_160 (by decide) ?_
  obtain ⟨hz, hf⟩ := zif_s hf
  refine zr_newa (t := 1) (atype := .int) (a0 := ((Int32.toNatClampNeg (1501 : Int32)), .inl (fun _ => 0))) ka_1 rfl rfl hB hG (fun _ => rfl) zh_ok_i hz.1 hz.2 dX11_init_163 (fun H hG => ?_)
  obtain ⟨h19, eh19, hf⟩ := zb hf
  refine zr_putF hB hG zF_11 (by decide) kf_X11_66 rfl hnm rfl rfl rfl eh19 dX11_init_165 (fun H locs hG => ?_)
  refine lv_aload_n hx hb dX11_init_168 rfl (lv_at hl 0 rfl) ?_
  refine lv_sipush (v := 1500) hx hb dX11_init_169 (by decide) ?_
  obtain ⟨hz, hf⟩ := zif_s hf
  refine zr_newa (t := 1) (atype := .int) (a0 := ((Int32.toNatClampNeg (1500 : Int32)), .inl (fun _ => 0))) ka_1 rfl rfl hB hG (fun _ => rfl) zh_ok_i hz.1 hz.2 dX11_init_172 (fun H hG => ?_)
  obtain ⟨h20, eh20, hf⟩ := zb hf
  refine zr_putF hB hG zF_11 (by decide) kf_X11_69 rfl hnm rfl rfl rfl eh20 dX11_init_174 (fun H locs hG => ?_)
  refine lv_aload_n hx hb dX11_init_177 rfl (lv_at hl 0 rfl) ?_
  refine lv_sipush (v := 1500) hx hb dX11_init_178 (by decide) ?_
  obtain ⟨hz, hf⟩ := zif_s hf
  refine zr_newa (t := 1) (atype := .int) (a0 := ((Int32.toNatClampNeg (1500 : Int32)), .inl (fun _ => 0))) ka_1 rfl rfl hB hG (fun _ => rfl) zh_ok_i hz.1 hz.2 dX11_init_181 (fun H hG => ?_)
  obtain ⟨h21, eh21, hf⟩ := zb hf
  refine zr_putF hB hG zF_11 (by decide) kf_X11_72 rfl hnm rfl rfl rfl eh21 dX11_init_183 (fun H locs hG => ?_)
  refine lv_aload_n hx hb dX11_init_186 rfl (lv_at hl 0 rfl) ?_
  refine lv_sipush (v := 1500) hx hb dX11_init_187 (by decide) ?_
  obtain ⟨hz, hf⟩ := zif_s hf
  refine zr_newa (t := 1) (atype := .int) (a0 := ((Int32.toNatClampNeg (1500 : Int32)), .inl (fun _ => 0))) ka_1 rfl rfl hB hG (fun _ => rfl) zh_ok_i hz.1 hz.2 dX11_init_190 (fun H hG => ?_)
  obtain ⟨h22, eh22, hf⟩ := zb hf
  refine zr_putF hB hG zF_11 (by decide) kf_X11_75 rfl hnm rfl rfl rfl eh22 dX11_init_192 (fun H locs hG => ?_)
  refine lv_aload_n hx hb dX11_init_195 rfl (lv_at hl 0 rfl) ?_
  refine lv_sipush (v := 1500) hx hb dX11_init_196 (by decide) ?_
  obtain ⟨hz, hf⟩ := zif_s hf
  refine zr_newa (t := 1) (atype := .int) (a0 := ((Int32.toNatClampNeg (1500 : Int32)), .inl (fun _ => 0))) ka_1 rfl rfl hB hG (fun _ => rfl) zh_ok_i hz.1 hz.2 dX11_init_199 (fun H hG => ?_)
  obtain ⟨h23, eh23, hf⟩ := zb hf
  refine zr_putF hB hG zF_11 (by decide) kf_X11_78 rfl hnm rfl rfl rfl eh23 dX11_init_201 (fun H locs hG => ?_)
  refine lv_aload_n hx hb dX11_init_204 rfl (lv_at hl 0 rfl) ?_
  refine lv_sipush (v := 200) hx hb dX11_init_205 (by decide) ?_
  obtain ⟨hz, hf⟩ := zif_s hf
  refine zr_newa (t := 2) (atype := .long) (a0 := ((Int32.toNatClampNeg (200 : Int32)), .inr (.inl (fun _ => 0)))) ka_2 rfl rfl hB hG (fun _ => rfl) zh_ok_l hz.1 hz.2 dX11_init_208 (fun H hG => ?_)
  obtain ⟨h24, eh24, hf⟩ := zb hf
  refine zr_putF hB hG zF_11 (by decide) kf_X11_81 rfl hnm rfl rfl rfl eh24 dX11_init_210 (fun H locs hG => ?_)
  refine lv_aload_n hx hb dX11_init_213 rfl (lv_at hl 0 rfl) ?_
  refine lv_sipush (v := 200) hx hb dX11_init_214 (by decide) ?_
  obtain ⟨hz, hf⟩ := zif_s hf
  refine zr_newa (t := 2) (atype := .long) (a0 := ((Int32.toNatClampNeg (200 : Int32)), .inr (.inl (fun _ => 0)))) ka_2 rfl rfl hB hG (fun _ => rfl) zh_ok_l hz.1 hz.2 dX11_init_217 (fun H hG => ?_)
  obtain ⟨h25, eh25, hf⟩ := zb hf
  refine zr_putF hB hG zF_11 (by decide) kf_X11_84 rfl hnm rfl rfl rfl eh25 dX11_init_219 (fun H locs hG => ?_)
  refine lv_aload_n hx hb dX11_init_222 rfl (lv_at hl 0 rfl) ?_
  refine lv_ldc (v := 80601) hx hb hB.2.2.2.1 (hB.2.2.2.2.1 _ (zin kk_X11_87 rfl)) dX11_init_223 ?_
  obtain ⟨hz, hf⟩ := zif_s hf
  refine zr_newa (t := 1) (atype := .int) (a0 := ((Int32.toNatClampNeg (80601 : Int32)), .inl (fun _ => 0))) ka_1 rfl rfl hB hG (fun _ => rfl) zh_ok_i hz.1 hz.2 dX11_init_225 (fun H hG => ?_)
  obtain ⟨h26, eh26, hf⟩ := zb hf
  refine zr_putF hB hG zF_11 (by decide) kf_X11_88 rfl hnm rfl rfl rfl eh26 dX11_init_227 (fun H locs hG => ?_)
  refine lv_aload_n hx hb dX11_init_230 rfl (lv_at hl 0 rfl) ?_
  refine lv_sipush (v := 800) hx hb dX11_init_231 (by decide) ?_
  obtain ⟨hz, hf⟩ := zif_s hf
  refine zr_newa (t := 1) (atype := .int) (a0 := ((Int32.toNatClampNeg (800 : Int32)), .inl (fun _ => 0))) ka_1 rfl rfl hB hG (fun _ => rfl) zh_ok_i hz.1 hz.2 dX11_init_234 (fun H hG => ?_)
  obtain ⟨h27, eh27, hf⟩ := zb hf
  refine zr_putF hB hG zF_11 (by decide) kf_X11_91 rfl hnm rfl rfl rfl eh27 dX11_init_236 (fun H locs hG => ?_)
  refine lv_aload_n hx hb dX11_init_239 rfl (lv_at hl 0 rfl) ?_
  refine lv_sipush (v := 1501) hx hb dX11_init_240 (by decide) ?_
  obtain ⟨hz, hf⟩ := zif_s hf
  refine zr_newa (t := 1) (atype := .int) (a0 := ((Int32.toNatClampNeg (1501 : Int32)), .inl (fun _ => 0))) ka_1 rfl rfl hB hG (fun _ => rfl) zh_ok_i hz.1 hz.2 dX11_init_243 (fun H hG => ?_)
  obtain ⟨h28, eh28, hf⟩ := zb hf
  refine zr_putF hB hG zF_11 (by decide) kf_X11_94 rfl hnm rfl rfl rfl eh28 dX11_init_245 (fun H locs hG => ?_)
  refine lv_aload_n hx hb dX11_init_248 rfl (lv_at hl 0 rfl) ?_
  refine lv_sipush (v := 1501) hx hb dX11_init_249 (by decide) ?_
  obtain ⟨hz, hf⟩ := zif_s hf
  refine zr_newa (t := 1) (atype := .int) (a0 := ((Int32.toNatClampNeg (1501 : Int32)), .inl (fun _ => 0))) ka_1 rfl rfl hB hG (fun _ => rfl) zh_ok_i hz.1 hz.2 dX11_init_252 (fun H hG => ?_)
  obtain ⟨h29, eh29, hf⟩ := zb hf
  refine zr_putF hB hG zF_11 (by decide) kf_X11_97 rfl hnm rfl rfl rfl eh29 dX11_init_254 (fun H locs hG => ?_)
  obtain ⟨hz, hf⟩ := zif_s hf
  obtain rfl := Option.some.inj hf
  refine W.widen (k := 28) (n := 117322) hz.1 hz.2 ?_
  exact zr_vret hB hG ⟨rfl, rfl, rfl⟩ dX11_init_257
end G_X11_init
theorem c_X11_init {l : Launch} {D : va_G} {K : Nat → ClassId} {b0 N N2 : Nat} {h h2 : zh_H} {x0 : Nat} (hf : b_X11_init_0 N 0 0 h x0 = some (N2, h2)) : zc l yX11_init cX11_init 1 none 1 28 117322 D K b0 N h [.ref x0] (zq none N2 h2) := by
  refine zc.of [(0, .ref x0)] (by decide) rfl (Nat.le_of_ble_eq_true rfl) ?_
  intro p e s m args below meth c hB hnm hG ls hl
  exact w_X11_init_0 (res := (N2, h2)) hB hnm _ _ ls N 0 0 h x0 hG (lv_sub hl [0] rfl) hf

section G_X11_insert
variable {p : Program} {l : Launch} {e : Env} {s : State} {m : MethodId} {args : Array Value} {below : List Frame} {meth : Method} {c : Code} {D : va_G} {K : Nat → ClassId} {b0 N : Nat}
set_option maxRecDepth 100000 in
set_option maxHeartbeats 4000000 in
theorem w_X11_insert_74 {res : (Int32 × zh_H)} (hB : zc_B p s m args meth c cX11_insert 3 RX11 (some .int) D K) : ∀ n : Nat, ∀ (H : Heap) (locs : List Loc) (ls : Array Slot) (h : zh_H) (x0 : Nat) (x1 : Int32) (x2 : Int32), zh_G D K b0 N h s.heap H locs → lv_has ls 3 [(0, .ref x0), (1, .int x1), (2, .int x2)] → b_X11_insert_74 n h x0 x1 x2 = some res → W p l e (zc_rm 1 0 0) s m args below meth c H locs 0 0 (MQ below (zc_Q D K b0 (zq (some (.int res.1)) N res.2)) args s 0 0 (fun q => b0 ≤ q)) (F0 m 74 ls []) := by
  have hx := hB.1
  have hb := hB.2.1
  intro n
  induction n with
  | zero =>
    intro H locs ls h x0 x1 x2 hG hl hf
    cases hf
  | succ n ih =>
    intro H locs ls h x0 x1 x2 hG hl hf
    unfold b_X11_insert_74 at hf
    refine lv_iload_n hx hb dX11_insert_74 rfl (lv_at hl 2 rfl) ?_
    refine lv_aload_n hx hb dX11_insert_75 rfl (lv_at hl 0 rfl) ?_
    obtain ⟨v1, ev1, hf⟩ := zb hf
    refine zr_getI hB hG zF_11 (by decide) kf_X11_110 ev1 dX11_insert_76 ?_
    refine lv_icmp_ge (tgt := 102) hx hb dX11_insert_79 (by decide) (fun hc11 => ?_) (fun hc11 => ?_)
    · rw [if_pos hc11] at hf
      refine lv_aload_n hx hb dX11_insert_102 rfl (lv_at hl 0 rfl) ?_
      refine lv_dup hx hb dX11_insert_103 rfl ?_
      obtain ⟨v2, ev2, hf⟩ := zb hf
      refine zr_getI hB hG zF_11 (by decide) kf_X11_162 ev2 dX11_insert_104 ?_
      refine lv_aload_n hx hb dX11_insert_107 rfl (lv_at hl 0 rfl) ?_
      obtain ⟨v3, ev3, hf⟩ := zb hf
      refine zr_getI hB hG zF_11 (by decide) kf_X11_110 ev3 dX11_insert_108 ?_
      refine lv_iadd hx hb dX11_insert_111 ?_
      obtain ⟨h4, eh4, hf⟩ := zb hf
      refine zr_put hB hG zF_11 (by decide) kf_X11_162 rfl rfl rfl eh4 dX11_insert_112 (fun H locs hG => ?_)
      refine lv_aload_n hx hb dX11_insert_115 rfl (lv_at hl 0 rfl) ?_
      refine lv_iconst (v := 0) hx hb dX11_insert_116 (by decide) ?_
      obtain ⟨h5, eh5, hf⟩ := zb hf
      refine zr_put hB hG zF_11 (by decide) kf_X11_110 rfl rfl rfl eh5 dX11_insert_117 (fun H locs hG => ?_)
      refine lv_aload_n hx hb dX11_insert_120 rfl (lv_at hl 0 rfl) ?_
      obtain ⟨v6, ev6, hf⟩ := zb hf
      refine zr_getI hB hG zF_11 (by decide) kf_X11_162 ev6 dX11_insert_121 ?_
      obtain rfl := Option.some.inj hf
      exact zr_iret hB hG ⟨rfl, rfl, rfl⟩ dX11_insert_124
    · rw [if_neg hc11] at hf
      refine lv_aload_n hx hb dX11_insert_82 rfl (lv_at hl 0 rfl) ?_
      obtain ⟨a7, ea7, hf⟩ := zb hf
      refine zr_getR hB hG zF_11 (by decide) kf_X11_13 ea7 dX11_insert_83 ?_
      refine lv_iload_n hx hb dX11_insert_86 rfl (lv_at hl 1 rfl) ?_
      refine lv_iload_n hx hb dX11_insert_87 rfl (lv_at hl 2 rfl) ?_
      refine lv_iadd hx hb dX11_insert_88 ?_
      refine lv_aload_n hx hb dX11_insert_89 rfl (lv_at hl 0 rfl) ?_
      obtain ⟨a8, ea8, hf⟩ := zb hf
      refine zr_getR hB hG zF_11 (by decide) kf_X11_7 ea8 dX11_insert_90 ?_
      refine lv_iload_n hx hb dX11_insert_93 rfl (lv_at hl 2 rfl) ?_
      obtain ⟨v9, ev9, hf⟩ := zb hf
      refine zr_iald hB hG ev9 dX11_insert_94 ?_
      obtain ⟨h10, eh10, hf⟩ := zb hf
      refine zr_iast hB hG eh10 dX11_insert_95 (fun H locs hG => ?_)
      refine lv_iinc (v := (x2 + (1 : Int32))) (lv' := [(2, .int (x2 + (1 : Int32))), (0, .ref x0), (1, .int x1)]) hx hb dX11_insert_96 hl (k := 2) rfl rfl (by decide) rfl (fun ls hl => ?_)
      refine lv_goto (tgt := 74) hx hb dX11_insert_99 (by decide) ?_
      exact ih _ _ _ h10 (x0) (x1) ((x2 + (1 : Int32))) hG (lv_sub hl [1, 2, 0] rfl) hf

set_option maxRecDepth 100000 in
set_option maxHeartbeats 4000000 in
theorem w_X11_insert_44 {res : (Int32 × zh_H)} (hB : zc_B p s m args meth c cX11_insert 3 RX11 (some .int) D K) : ∀ n : Nat, ∀ (H : Heap) (locs : List Loc) (ls : Array Slot) (h : zh_H) (x0 : Nat) (x1 : Int32) (x2 : Int32), zh_G D K b0 N h s.heap H locs → lv_has ls 3 [(0, .ref x0), (1, .int x1), (2, .int x2)] → b_X11_insert_44 n h x0 x1 x2 = some res → W p l e (zc_rm 1 0 0) s m args below meth c H locs 0 0 (MQ below (zc_Q D K b0 (zq (some (.int res.1)) N res.2)) args s 0 0 (fun q => b0 ≤ q)) (F0 m 44 ls []) := by
  have hx := hB.1
  have hb := hB.2.1
  intro n
  induction n with
  | zero =>
    intro H locs ls h x0 x1 x2 hG hl hf
    cases hf
  | succ n ih =>
    intro H locs ls h x0 x1 x2 hG hl hf
    unfold b_X11_insert_44 at hf
    refine lv_iload_n hx hb dX11_insert_44 rfl (lv_at hl 2 rfl) ?_
    refine lv_iload_n hx hb dX11_insert_45 rfl (lv_at hl 1 rfl) ?_
    refine lv_icmp_lt (tgt := 72) hx hb dX11_insert_46 (by decide) (fun hc6 => ?_) (fun hc6 => ?_)
    · rw [if_pos hc6] at hf
      refine lv_iconst (v := 0) hx hb dX11_insert_72 (by decide) ?_
      refine lv_istore_n (lv' := [(2, .int (0 : Int32)), (0, .ref x0), (1, .int x1)]) hx hb dX11_insert_73 rfl hl (by decide) rfl (fun ls hl => ?_)
      exact w_X11_insert_74 hB zFuel _ _ _ h (x0) (x1) ((0 : Int32)) hG (lv_sub hl [1, 2, 0] rfl) hf
    · rw [if_neg hc6] at hf
      refine lv_aload_n hx hb dX11_insert_49 rfl (lv_at hl 0 rfl) ?_
      obtain ⟨a1, ea1, hf⟩ := zb hf
      refine zr_getR hB hG zF_11 (by decide) kf_X11_13 ea1 dX11_insert_50 ?_
      refine lv_iload_n hx hb dX11_insert_53 rfl (lv_at hl 2 rfl) ?_
      refine lv_aload_n hx hb dX11_insert_54 rfl (lv_at hl 0 rfl) ?_
      obtain ⟨v2, ev2, hf⟩ := zb hf
      refine zr_getI hB hG zF_11 (by decide) kf_X11_110 ev2 dX11_insert_55 ?_
      refine lv_iadd hx hb dX11_insert_58 ?_
      refine lv_aload_n hx hb dX11_insert_59 rfl (lv_at hl 0 rfl) ?_
      obtain ⟨a3, ea3, hf⟩ := zb hf
      refine zr_getR hB hG zF_11 (by decide) kf_X11_13 ea3 dX11_insert_60 ?_
      refine lv_iload_n hx hb dX11_insert_63 rfl (lv_at hl 2 rfl) ?_
      obtain ⟨v4, ev4, hf⟩ := zb hf
      refine zr_iald hB hG ev4 dX11_insert_64 ?_
      obtain ⟨h5, eh5, hf⟩ := zb hf
      refine zr_iast hB hG eh5 dX11_insert_65 (fun H locs hG => ?_)
      refine lv_iinc (v := (x2 + (-1 : Int32))) (lv' := [(2, .int (x2 + (-1 : Int32))), (0, .ref x0), (1, .int x1)]) hx hb dX11_insert_66 hl (k := 2) rfl rfl (by decide) rfl (fun ls hl => ?_)
      refine lv_goto (tgt := 44) hx hb dX11_insert_69 (by decide) ?_
      exact ih _ _ _ h5 (x0) (x1) ((x2 + (-1 : Int32))) hG (lv_sub hl [1, 2, 0] rfl) hf

set_option maxRecDepth 100000 in
set_option maxHeartbeats 4000000 in
theorem w_X11_insert_0 {res : (Int32 × zh_H)} (hB : zc_B p s m args meth c cX11_insert 3 RX11 (some .int) D K) : ∀ (H : Heap) (locs : List Loc) (ls : Array Slot) (h : zh_H) (x0 : Nat) (x1 : Int32), zh_G D K b0 N h s.heap H locs → lv_has ls 3 [(0, .ref x0), (1, .int x1)] → b_X11_insert_0 h x0 x1 = some res → W p l e (zc_rm 1 0 0) s m args below meth c H locs 0 0 (MQ below (zc_Q D K b0 (zq (some (.int res.1)) N res.2)) args s 0 0 (fun q => b0 ≤ q)) (F0 m 0 ls []) := by
  have hx := hB.1
  have hb := hB.2.1
  intro H locs ls h x0 x1 hG hl hf
  unfold b_X11_insert_0 at hf
  refine lv_iload_n hx hb dX11_insert_0 rfl (lv_at hl 1 rfl) ?_
  refine lv_iconst (v := 0) hx hb dX11_insert_1 (by decide) ?_
  refine lv_aload_n hx hb dX11_insert_2 rfl (lv_at hl 0 rfl) ?_
  obtain ⟨v1, ev1, hf⟩ := zb hf
  refine zr_getI hB hG zF_11 (by decide) kf_X11_162 ev1 dX11_insert_3 ?_
  obtain ⟨v3, h2, eh2, hf⟩ := zbp_s hf
  refine zr_callS (As := [.int x1, .int (0 : Int32), .int v1]) kc_X11_100 hB hG (c_X11_in eh2) rfl hl.1 rfl ⟨by decide, by decide⟩ (Nat.le_of_ble_eq_true rfl) ⟨by decide, by decide⟩ dX11_insert_6 (fun H locs hG => ?_)
  refine lv_if_ne (tgt := 15) hx hb dX11_insert_9 (by decide) (fun hc10 => ?_) (fun hc10 => ?_)
  · rw [if_neg hc10] at hf
    refine lv_aload_n hx hb dX11_insert_15 rfl (lv_at hl 0 rfl) ?_
    obtain ⟨v4, ev4, hf⟩ := zb hf
    refine zr_getI hB hG zF_11 (by decide) kf_X11_162 ev4 dX11_insert_16 ?_
    refine lv_aload_n hx hb dX11_insert_19 rfl (lv_at hl 0 rfl) ?_
    obtain ⟨v5, ev5, hf⟩ := zb hf
    refine zr_getI hB hG zF_11 (by decide) kf_X11_110 ev5 dX11_insert_20 ?_
    refine lv_iadd hx hb dX11_insert_23 ?_
    refine lv_sipush (v := 1500) hx hb dX11_insert_24 (by decide) ?_
    refine lv_icmp_le (tgt := 33) hx hb dX11_insert_27 (by decide) (fun hc9 => ?_) (fun hc9 => ?_)
    · rw [if_pos hc9] at hf
      refine lv_aload_n hx hb dX11_insert_33 rfl (lv_at hl 0 rfl) ?_
      obtain ⟨o6, eo6, hf⟩ := zb hf
      obtain ⟨h7, eh7, hf⟩ := zb hf
      refine zr_callVv (As := []) kc_X11_165 hB hG (c_X11_remember eh7) eo6 rfl hl.1 rfl ⟨by decide, by decide⟩ (Nat.le_of_ble_eq_true rfl) ⟨by decide, by decide⟩ dX11_insert_34 (fun H locs hG => ?_)
      refine lv_aload_n hx hb dX11_insert_37 rfl (lv_at hl 0 rfl) ?_
      obtain ⟨v8, ev8, hf⟩ := zb hf
      refine zr_getI hB hG zF_11 (by decide) kf_X11_162 ev8 dX11_insert_38 ?_
      refine lv_iconst (v := 1) hx hb dX11_insert_41 (by decide) ?_
      refine lv_isub hx hb dX11_insert_42 ?_
      refine lv_istore_n (lv' := [(2, .int (v8 - (1 : Int32))), (0, .ref x0), (1, .int x1)]) hx hb dX11_insert_43 rfl hl (by decide) rfl (fun ls hl => ?_)
      exact w_X11_insert_44 hB zFuel _ _ _ h7 (x0) (x1) ((v8 - (1 : Int32))) hG (lv_sub hl [1, 2, 0] rfl) hf
    · rw [if_neg hc9] at hf
      refine lv_bipush (v := -3) hx hb dX11_insert_30 (by decide) ?_
      obtain rfl := Option.some.inj hf
      exact zr_iret hB hG ⟨rfl, rfl, rfl⟩ dX11_insert_32
  · rw [if_pos hc10] at hf
    refine lv_bipush (v := -2) hx hb dX11_insert_12 (by decide) ?_
    obtain rfl := Option.some.inj hf
    exact zr_iret hB hG ⟨rfl, rfl, rfl⟩ dX11_insert_14
end G_X11_insert
theorem c_X11_insert {l : Launch} {D : va_G} {K : Nat → ClassId} {b0 N : Nat} {h : zh_H} {x0 : Nat} {x1 : Int32} {r : Int32} {h2 : zh_H} (hf : b_X11_insert_0 h x0 x1 = some (r, h2)) : zc l yX11_insert cX11_insert 3 (some .int) 1 0 0 D K b0 N h [.ref x0, .int x1] (zq (some (.int r)) N h2) := by
  refine zc.of [(0, .ref x0), (1, .int x1)] (by decide) rfl (Nat.le_of_ble_eq_true rfl) ?_
  intro p e s m args below meth c hB hnm hG ls hl
  exact w_X11_insert_0 (res := (r, h2)) hB _ _ ls h x0 x1 hG (lv_sub hl [0, 1] rfl) hf

section G_X11_length
variable {p : Program} {l : Launch} {e : Env} {s : State} {m : MethodId} {args : Array Value} {below : List Frame} {meth : Method} {c : Code} {D : va_G} {K : Nat → ClassId} {b0 N : Nat}
set_option maxRecDepth 100000 in
set_option maxHeartbeats 4000000 in
theorem w_X11_length_0 {res : (Int32 × zh_H)} (hB : zc_B p s m args meth c cX11_length 1 RX11 (some .int) D K) : ∀ (H : Heap) (locs : List Loc) (ls : Array Slot) (h : zh_H) (x0 : Nat), zh_G D K b0 N h s.heap H locs → lv_has ls 1 [(0, .ref x0)] → b_X11_length_0 h x0 = some res → W p l e (zc_rm 0 0 0) s m args below meth c H locs 0 0 (MQ below (zc_Q D K b0 (zq (some (.int res.1)) N res.2)) args s 0 0 (fun q => b0 ≤ q)) (F0 m 0 ls []) := by
  have hx := hB.1
  have hb := hB.2.1
  intro H locs ls h x0 hG hl hf
  unfold b_X11_length_0 at hf
  refine lv_aload_n hx hb dX11_length_0 rfl (lv_at hl 0 rfl) ?_
  obtain ⟨v1, ev1, hf⟩ := zb hf
  refine zr_getI hB hG zF_11 (by decide) kf_X11_162 ev1 dX11_length_1 ?_
  obtain rfl := Option.some.inj hf
  exact zr_iret hB hG ⟨rfl, rfl, rfl⟩ dX11_length_4
end G_X11_length
theorem c_X11_length {l : Launch} {D : va_G} {K : Nat → ClassId} {b0 N : Nat} {h : zh_H} {x0 : Nat} {r : Int32} {h2 : zh_H} (hf : b_X11_length_0 h x0 = some (r, h2)) : zc l yX11_length cX11_length 1 (some .int) 0 0 0 D K b0 N h [.ref x0] (zq (some (.int r)) N h2) := by
  refine zc.of [(0, .ref x0)] (by decide) rfl (Nat.le_of_ble_eq_true rfl) ?_
  intro p e s m args below meth c hB hnm hG ls hl
  exact w_X11_length_0 (res := (r, h2)) hB _ _ ls h x0 hG (lv_sub hl [0] rfl) hf

section G_X11_line
variable {p : Program} {l : Launch} {e : Env} {s : State} {m : MethodId} {args : Array Value} {below : List Frame} {meth : Method} {c : Code} {D : va_G} {K : Nat → ClassId} {b0 N : Nat}
set_option maxRecDepth 100000 in
set_option maxHeartbeats 4000000 in
theorem w_X11_line_24 {res : (Int32 × zh_H)} (hB : zc_B p s m args meth c cX11_line 2 RX11 (some .int) D K) : ∀ (H : Heap) (locs : List Loc) (ls : Array Slot) (h : zh_H) (y0 : Int32), zh_G D K b0 N h s.heap H locs → lv_has ls 2 [] → b_X11_line_24 h y0 = some res → W p l e (zc_rm 1 0 0) s m args below meth c H locs 0 0 (MQ below (zc_Q D K b0 (zq (some (.int res.1)) N res.2)) args s 0 0 (fun q => b0 ≤ q)) (F0 m 24 ls [.int y0]) := by
  have hx := hB.1
  have hb := hB.2.1
  intro H locs ls h y0 hG hl hf
  unfold b_X11_line_24 at hf
  obtain rfl := Option.some.inj hf
  exact zr_iret hB hG ⟨rfl, rfl, rfl⟩ dX11_line_24

set_option maxRecDepth 100000 in
set_option maxHeartbeats 4000000 in
theorem w_X11_line_0 {res : (Int32 × zh_H)} (hB : zc_B p s m args meth c cX11_line 2 RX11 (some .int) D K) : ∀ (H : Heap) (locs : List Loc) (ls : Array Slot) (h : zh_H) (x0 : Nat) (x1 : Int32), zh_G D K b0 N h s.heap H locs → lv_has ls 2 [(0, .ref x0), (1, .int x1)] → b_X11_line_0 h x0 x1 = some res → W p l e (zc_rm 1 0 0) s m args below meth c H locs 0 0 (MQ below (zc_Q D K b0 (zq (some (.int res.1)) N res.2)) args s 0 0 (fun q => b0 ≤ q)) (F0 m 0 ls []) := by
  have hx := hB.1
  have hb := hB.2.1
  intro H locs ls h x0 x1 hG hl hf
  unfold b_X11_line_0 at hf
  refine lv_iload_n hx hb dX11_line_0 rfl (lv_at hl 1 rfl) ?_
  refine lv_iconst (v := 0) hx hb dX11_line_1 (by decide) ?_
  refine lv_aload_n hx hb dX11_line_2 rfl (lv_at hl 0 rfl) ?_
  obtain ⟨v1, ev1, hf⟩ := zb hf
  refine zr_getI hB hG zF_11 (by decide) kf_X11_220 ev1 dX11_line_3 ?_
  refine lv_iconst (v := 1) hx hb dX11_line_6 (by decide) ?_
  refine lv_isub hx hb dX11_line_7 ?_
  obtain ⟨v3, h2, eh2, hf⟩ := zbp_s hf
  refine zr_callS (As := [.int x1, .int (0 : Int32), .int (v1 - (1 : Int32))]) kc_X11_100 hB hG (c_X11_in eh2) rfl hl.1 rfl ⟨by decide, by decide⟩ (Nat.le_of_ble_eq_true rfl) ⟨by decide, by decide⟩ dX11_line_8 (fun H locs hG => ?_)
  refine lv_if_eq (tgt := 23) hx hb dX11_line_11 (by decide) (fun hc6 => ?_) (fun hc6 => ?_)
  · rw [if_pos hc6] at hf
    refine lv_iconst (v := -1) hx hb dX11_line_23 (by decide) ?_
    exact w_X11_line_24 hB _ _ _ h2 ((-1 : Int32)) hG (lv_sub hl [] rfl) hf
  · rw [if_neg hc6] at hf
    refine lv_aload_n hx hb dX11_line_14 rfl (lv_at hl 0 rfl) ?_
    obtain ⟨a4, ea4, hf⟩ := zb hf
    refine zr_getR hB hG zF_11 (by decide) kf_X11_94 ea4 dX11_line_15 ?_
    refine lv_iload_n hx hb dX11_line_18 rfl (lv_at hl 1 rfl) ?_
    obtain ⟨v5, ev5, hf⟩ := zb hf
    refine zr_iald hB hG ev5 dX11_line_19 ?_
    refine lv_goto (tgt := 24) hx hb dX11_line_20 (by decide) ?_
    exact w_X11_line_24 hB _ _ _ h2 (v5) hG (lv_sub hl [] rfl) hf
end G_X11_line
theorem c_X11_line {l : Launch} {D : va_G} {K : Nat → ClassId} {b0 N : Nat} {h : zh_H} {x0 : Nat} {x1 : Int32} {r : Int32} {h2 : zh_H} (hf : b_X11_line_0 h x0 x1 = some (r, h2)) : zc l yX11_line cX11_line 2 (some .int) 1 0 0 D K b0 N h [.ref x0, .int x1] (zq (some (.int r)) N h2) := by
  refine zc.of [(0, .ref x0), (1, .int x1)] (by decide) rfl (Nat.le_of_ble_eq_true rfl) ?_
  intro p e s m args below meth c hB hnm hG ls hl
  exact w_X11_line_0 (res := (r, h2)) hB _ _ ls h x0 x1 hG (lv_sub hl [0, 1] rfl) hf

section G_X11_lines
variable {p : Program} {l : Launch} {e : Env} {s : State} {m : MethodId} {args : Array Value} {below : List Frame} {meth : Method} {c : Code} {D : va_G} {K : Nat → ClassId} {b0 N : Nat}
set_option maxRecDepth 100000 in
set_option maxHeartbeats 4000000 in
theorem w_X11_lines_15 {res : (Int32 × zh_H)} (hB : zc_B p s m args meth c cX11_lines 7 RX11 (some .int) D K) : ∀ (H : Heap) (locs : List Loc) (ls : Array Slot) (h : zh_H), zh_G D K b0 N h s.heap H locs → lv_has ls 7 [] → b_X11_lines_15 h  = some res → W p l e (zc_rm 3 0 0) s m args below meth c H locs 0 0 (MQ below (zc_Q D K b0 (zq (some (.int res.1)) N res.2)) args s 0 0 (fun q => b0 ≤ q)) (F0 m 15 ls []) := by
  have hx := hB.1
  have hb := hB.2.1
  intro H locs ls h  hG hl hf
  unfold b_X11_lines_15 at hf
  refine lv_bipush (v := -2) hx hb dX11_lines_15 (by decide) ?_
  obtain rfl := Option.some.inj hf
  exact zr_iret hB hG ⟨rfl, rfl, rfl⟩ dX11_lines_17

set_option maxRecDepth 100000 in
set_option maxHeartbeats 4000000 in
theorem w_X11_lines_119 {res : (Int32 × zh_H)} (hB : zc_B p s m args meth c cX11_lines 7 RX11 (some .int) D K) {k42 : zh_H → Nat → Int32 → Int32 → Int32 → Int32 → Option (Int32 × zh_H)} (hk42 : ∀ (H : Heap) (locs : List Loc) (ls : Array Slot) (h : zh_H) (x0 : Nat) (x2 : Int32) (x4 : Int32) (x5 : Int32) (x6 : Int32), zh_G D K b0 N h s.heap H locs → lv_has ls 7 [(0, .ref x0), (2, .int x2), (4, .int x4), (5, .int x5), (6, .int x6)] → k42 h x0 x2 x4 x5 x6 = some res → W p l e (zc_rm 3 0 0) s m args below meth c H locs 0 0 (MQ below (zc_Q D K b0 (zq (some (.int res.1)) N res.2)) args s 0 0 (fun q => b0 ≤ q)) (F0 m 42 ls [])) : ∀ (H : Heap) (locs : List Loc) (ls : Array Slot) (h : zh_H) (x0 : Nat) (x2 : Int32) (x4 : Int32) (x5 : Int32) (x6 : Int32), zh_G D K b0 N h s.heap H locs → lv_has ls 7 [(0, .ref x0), (2, .int x2), (4, .int x4), (5, .int x5), (6, .int x6)] → b_X11_lines_119 k42 h x0 x2 x4 x5 x6 = some res → W p l e (zc_rm 3 0 0) s m args below meth c H locs 0 0 (MQ below (zc_Q D K b0 (zq (some (.int res.1)) N res.2)) args s 0 0 (fun q => b0 ≤ q)) (F0 m 119 ls []) := by
  have hx := hB.1
  have hb := hB.2.1
  intro H locs ls h x0 x2 x4 x5 x6 hG hl hf
  unfold b_X11_lines_119 at hf
  refine lv_iinc (v := (x6 + (1 : Int32))) (lv' := [(6, .int (x6 + (1 : Int32))), (0, .ref x0), (2, .int x2), (4, .int x4), (5, .int x5)]) hx hb dX11_lines_119 hl (k := 4) rfl rfl (by decide) rfl (fun ls hl => ?_)
  refine lv_goto (tgt := 42) hx hb dX11_lines_122 (by decide) ?_
  exact hk42 _ _ _ h (x0) (x2) (x4) (x5) ((x6 + (1 : Int32))) hG (lv_sub hl [1, 2, 3, 4, 0] rfl) hf

set_option maxRecDepth 100000 in
set_option maxHeartbeats 4000000 in
theorem w_X11_lines_110 {res : (Int32 × zh_H)} (hB : zc_B p s m args meth c cX11_lines 7 RX11 (some .int) D K) {k42 : zh_H → Nat → Int32 → Int32 → Int32 → Int32 → Option (Int32 × zh_H)} (hk42 : ∀ (H : Heap) (locs : List Loc) (ls : Array Slot) (h : zh_H) (x0 : Nat) (x2 : Int32) (x4 : Int32) (x5 : Int32) (x6 : Int32), zh_G D K b0 N h s.heap H locs → lv_has ls 7 [(0, .ref x0), (2, .int x2), (4, .int x4), (5, .int x5), (6, .int x6)] → k42 h x0 x2 x4 x5 x6 = some res → W p l e (zc_rm 3 0 0) s m args below meth c H locs 0 0 (MQ below (zc_Q D K b0 (zq (some (.int res.1)) N res.2)) args s 0 0 (fun q => b0 ≤ q)) (F0 m 42 ls [])) : ∀ (H : Heap) (locs : List Loc) (ls : Array Slot) (h : zh_H) (x0 : Nat) (x2 : Int32) (x4 : Int32) (x6 : Int32), zh_G D K b0 N h s.heap H locs → lv_has ls 7 [(0, .ref x0), (2, .int x2), (4, .int x4), (6, .int x6)] → b_X11_lines_110 k42 h x0 x2 x4 x6 = some res → W p l e (zc_rm 3 0 0) s m args below meth c H locs 0 0 (MQ below (zc_Q D K b0 (zq (some (.int res.1)) N res.2)) args s 0 0 (fun q => b0 ≤ q)) (F0 m 110 ls []) := by
  have hx := hB.1
  have hb := hB.2.1
  intro H locs ls h x0 x2 x4 x6 hG hl hf
  unfold b_X11_lines_110 at hf
  refine lv_iinc (v := (x4 + (1 : Int32))) (lv' := [(4, .int (x4 + (1 : Int32))), (0, .ref x0), (2, .int x2), (6, .int x6)]) hx hb dX11_lines_110 hl (k := 2) rfl rfl (by decide) rfl (fun ls hl => ?_)
  refine lv_iload hx hb dX11_lines_113 (lv_at hl 3 rfl) ?_
  refine lv_iconst (v := 1) hx hb dX11_lines_115 (by decide) ?_
  refine lv_iadd hx hb dX11_lines_116 ?_
  refine lv_istore (lv' := [(5, .int (x6 + (1 : Int32))), (4, .int (x4 + (1 : Int32))), (0, .ref x0), (2, .int x2), (6, .int x6)]) hx hb dX11_lines_117 hl (by decide) rfl (fun ls hl => ?_)
  exact w_X11_lines_119 hB hk42 _ _ _ h (x0) (x2) ((x4 + (1 : Int32))) ((x6 + (1 : Int32))) (x6) hG (lv_sub hl [2, 3, 1, 0, 4] rfl) hf

set_option maxRecDepth 100000 in
set_option maxHeartbeats 4000000 in
theorem w_X11_lines_72 {res : (Int32 × zh_H)} (hB : zc_B p s m args meth c cX11_lines 7 RX11 (some .int) D K) {k42 : zh_H → Nat → Int32 → Int32 → Int32 → Int32 → Option (Int32 × zh_H)} (hk42 : ∀ (H : Heap) (locs : List Loc) (ls : Array Slot) (h : zh_H) (x0 : Nat) (x2 : Int32) (x4 : Int32) (x5 : Int32) (x6 : Int32), zh_G D K b0 N h s.heap H locs → lv_has ls 7 [(0, .ref x0), (2, .int x2), (4, .int x4), (5, .int x5), (6, .int x6)] → k42 h x0 x2 x4 x5 x6 = some res → W p l e (zc_rm 3 0 0) s m args below meth c H locs 0 0 (MQ below (zc_Q D K b0 (zq (some (.int res.1)) N res.2)) args s 0 0 (fun q => b0 ≤ q)) (F0 m 42 ls [])) : ∀ (H : Heap) (locs : List Loc) (ls : Array Slot) (h : zh_H) (x0 : Nat) (x2 : Int32) (x4 : Int32) (x5 : Int32) (x6 : Int32), zh_G D K b0 N h s.heap H locs → lv_has ls 7 [(0, .ref x0), (2, .int x2), (4, .int x4), (5, .int x5), (6, .int x6)] → b_X11_lines_72 k42 h x0 x2 x4 x5 x6 = some res → W p l e (zc_rm 3 0 0) s m args below meth c H locs 0 0 (MQ below (zc_Q D K b0 (zq (some (.int res.1)) N res.2)) args s 0 0 (fun q => b0 ≤ q)) (F0 m 72 ls []) := by
  have hx := hB.1
  have hb := hB.2.1
  intro H locs ls h x0 x2 x4 x5 x6 hG hl hf
  unfold b_X11_lines_72 at hf
  refine lv_aload_n hx hb dX11_lines_72 rfl (lv_at hl 0 rfl) ?_
  refine lv_iload hx hb dX11_lines_73 (lv_at hl 3 rfl) ?_
  refine lv_iload hx hb dX11_lines_75 (lv_at hl 4 rfl) ?_
  obtain ⟨o1, eo1, hf⟩ := zb hf
  obtain ⟨h2, eh2, hf⟩ := zb hf
  refine zr_callVv (As := [.int x5, .int x6]) kc_X11_202 hB hG (c_X11_loadBytes eh2) eo1 rfl hl.1 rfl ⟨by decide, by decide⟩ (Nat.le_of_ble_eq_true rfl) ⟨by decide, by decide⟩ dX11_lines_77 (fun H locs hG => ?_)
  refine lv_aload_n hx hb dX11_lines_80 rfl (lv_at hl 0 rfl) ?_
  refine lv_iload_n hx hb dX11_lines_81 rfl (lv_at hl 1 rfl) ?_
  refine lv_iconst (v := 0) hx hb dX11_lines_82 (by decide) ?_
  obtain ⟨o3, eo3, hf⟩ := zb hf
  obtain ⟨v5, h4, eh4, hf⟩ := zbp_s hf
  refine zr_callV (As := [.int x2, .int (0 : Int32)]) kc_X11_223 hB hG (c_X11_firstHit eh4) eo3 rfl hl.1 rfl ⟨by decide, by decide⟩ (Nat.le_of_ble_eq_true rfl) ⟨by decide, by decide⟩ dX11_lines_83 (fun H locs hG => ?_)
  refine lv_if_le (tgt := 110) hx hb dX11_lines_86 (by decide) (fun hc11 => ?_) (fun hc11 => ?_)
  · rw [if_pos hc11] at hf
    exact w_X11_lines_110 hB hk42 _ _ _ h4 (x0) (x2) (x4) (x6) hG (lv_sub hl [0, 1, 2, 4] rfl) hf
  · rw [if_neg hc11] at hf
    refine lv_aload_n hx hb dX11_lines_89 rfl (lv_at hl 0 rfl) ?_
    obtain ⟨a6, ea6, hf⟩ := zb hf
    refine zr_getR hB hG zF_11 (by decide) kf_X11_94 ea6 dX11_lines_90 ?_
    refine lv_aload_n hx hb dX11_lines_93 rfl (lv_at hl 0 rfl) ?_
    obtain ⟨v7, ev7, hf⟩ := zb hf
    refine zr_getI hB hG zF_11 (by decide) kf_X11_220 ev7 dX11_lines_94 ?_
    refine lv_iload hx hb dX11_lines_97 (lv_at hl 2 rfl) ?_
    obtain ⟨h8, eh8, hf⟩ := zb hf
    refine zr_iast hB hG eh8 dX11_lines_99 (fun H locs hG => ?_)
    refine lv_aload_n hx hb dX11_lines_100 rfl (lv_at hl 0 rfl) ?_
    refine lv_dup hx hb dX11_lines_101 rfl ?_
    obtain ⟨v9, ev9, hf⟩ := zb hf
    refine zr_getI hB hG zF_11 (by decide) kf_X11_220 ev9 dX11_lines_102 ?_
    refine lv_iconst (v := 1) hx hb dX11_lines_105 (by decide) ?_
    refine lv_iadd hx hb dX11_lines_106 ?_
    obtain ⟨h10, eh10, hf⟩ := zb hf
    refine zr_put hB hG zF_11 (by decide) kf_X11_220 rfl rfl rfl eh10 dX11_lines_107 (fun H locs hG => ?_)
    exact w_X11_lines_110 hB hk42 _ _ _ h10 (x0) (x2) (x4) (x6) hG (lv_sub hl [0, 1, 2, 4] rfl) hf

set_option maxRecDepth 100000 in
set_option maxHeartbeats 4000000 in
theorem w_X11_lines_42 {res : (Int32 × zh_H)} (hB : zc_B p s m args meth c cX11_lines 7 RX11 (some .int) D K) : ∀ n : Nat, ∀ (H : Heap) (locs : List Loc) (ls : Array Slot) (h : zh_H) (x0 : Nat) (x2 : Int32) (x4 : Int32) (x5 : Int32) (x6 : Int32), zh_G D K b0 N h s.heap H locs → lv_has ls 7 [(0, .ref x0), (2, .int x2), (4, .int x4), (5, .int x5), (6, .int x6)] → b_X11_lines_42 n h x0 x2 x4 x5 x6 = some res → W p l e (zc_rm 3 0 0) s m args below meth c H locs 0 0 (MQ below (zc_Q D K b0 (zq (some (.int res.1)) N res.2)) args s 0 0 (fun q => b0 ≤ q)) (F0 m 42 ls []) := by
  have hx := hB.1
  have hb := hB.2.1
  intro n
  induction n with
  | zero =>
    intro H locs ls h x0 x2 x4 x5 x6 hG hl hf
    cases hf
  | succ n ih =>
    intro H locs ls h x0 x2 x4 x5 x6 hG hl hf
    unfold b_X11_lines_42 at hf
    refine lv_iload hx hb dX11_lines_42 (lv_at hl 4 rfl) ?_
    refine lv_aload_n hx hb dX11_lines_44 rfl (lv_at hl 0 rfl) ?_
    obtain ⟨v1, ev1, hf⟩ := zb hf
    refine zr_getI hB hG zF_11 (by decide) kf_X11_162 ev1 dX11_lines_45 ?_
    refine lv_icmp_gt (tgt := 125) hx hb dX11_lines_48 (by decide) (fun hc8 => ?_) (fun hc8 => ?_)
    · rw [if_pos hc8] at hf
      refine lv_aload_n hx hb dX11_lines_125 rfl (lv_at hl 0 rfl) ?_
      obtain ⟨v2, ev2, hf⟩ := zb hf
      refine zr_getI hB hG zF_11 (by decide) kf_X11_220 ev2 dX11_lines_126 ?_
      obtain rfl := Option.some.inj hf
      exact zr_iret hB hG ⟨rfl, rfl, rfl⟩ dX11_lines_129
    · rw [if_neg hc8] at hf
      refine lv_iload hx hb dX11_lines_51 (lv_at hl 4 rfl) ?_
      refine lv_aload_n hx hb dX11_lines_53 rfl (lv_at hl 0 rfl) ?_
      obtain ⟨v3, ev3, hf⟩ := zb hf
      refine zr_getI hB hG zF_11 (by decide) kf_X11_162 ev3 dX11_lines_54 ?_
      refine lv_icmp_eq (tgt := 72) hx hb dX11_lines_57 (by decide) (fun hc7 => ?_) (fun hc7 => ?_)
      · rw [if_pos hc7] at hf
        exact w_X11_lines_72 hB ih _ _ _ h (x0) (x2) (x4) (x5) (x6) hG (lv_sub hl [0, 1, 2, 3, 4] rfl) hf
      · rw [if_neg hc7] at hf
        refine lv_aload_n hx hb dX11_lines_60 rfl (lv_at hl 0 rfl) ?_
        obtain ⟨a4, ea4, hf⟩ := zb hf
        refine zr_getR hB hG zF_11 (by decide) kf_X11_13 ea4 dX11_lines_61 ?_
        refine lv_iload hx hb dX11_lines_64 (lv_at hl 4 rfl) ?_
        obtain ⟨v5, ev5, hf⟩ := zb hf
        refine zr_iald hB hG ev5 dX11_lines_66 ?_
        refine lv_bipush (v := 10) hx hb dX11_lines_67 (by decide) ?_
        refine lv_icmp_ne (tgt := 119) hx hb dX11_lines_69 (by decide) (fun hc6 => ?_) (fun hc6 => ?_)
        · rw [if_neg hc6] at hf
          exact w_X11_lines_119 hB ih _ _ _ h (x0) (x2) (x4) (x5) (x6) hG (lv_sub hl [0, 1, 2, 3, 4] rfl) hf
        · rw [if_pos hc6] at hf
          exact w_X11_lines_72 hB ih _ _ _ h (x0) (x2) (x4) (x5) (x6) hG (lv_sub hl [0, 1, 2, 3, 4] rfl) hf

set_option maxRecDepth 100000 in
set_option maxHeartbeats 4000000 in
theorem w_X11_lines_0 {res : (Int32 × zh_H)} (hB : zc_B p s m args meth c cX11_lines 7 RX11 (some .int) D K) : ∀ (H : Heap) (locs : List Loc) (ls : Array Slot) (h : zh_H) (x0 : Nat) (x1 : Int32) (x2 : Int32) (x3 : Int32), zh_G D K b0 N h s.heap H locs → lv_has ls 7 [(0, .ref x0), (1, .int x1), (2, .int x2), (3, .int x3)] → b_X11_lines_0 h x0 x1 x2 x3 = some res → W p l e (zc_rm 3 0 0) s m args below meth c H locs 0 0 (MQ below (zc_Q D K b0 (zq (some (.int res.1)) N res.2)) args s 0 0 (fun q => b0 ≤ q)) (F0 m 0 ls []) := by
  have hx := hB.1
  have hb := hB.2.1
  intro H locs ls h x0 x1 x2 x3 hG hl hf
  unfold b_X11_lines_0 at hf
  refine lv_aload_n hx hb dX11_lines_0 rfl (lv_at hl 0 rfl) ?_
  refine lv_iload_n hx hb dX11_lines_1 rfl (lv_at hl 1 rfl) ?_
  obtain ⟨o1, eo1, hf⟩ := zb hf
  obtain ⟨v3, h2, eh2, hf⟩ := zbp_s hf
  refine zr_callV (As := [.int x1]) kc_X11_156 hB hG (c_X11_isThere eh2) eo1 rfl hl.1 rfl ⟨by decide, by decide⟩ (Nat.le_of_ble_eq_true rfl) ⟨by decide, by decide⟩ dX11_lines_2 (fun H locs hG => ?_)
  refine lv_if_eq (tgt := 15) hx hb dX11_lines_5 (by decide) (fun hc11 => ?_) (fun hc11 => ?_)
  · rw [if_pos hc11] at hf
    exact w_X11_lines_15 hB _ _ _ h2  hG (lv_sub hl [] rfl) hf
  · rw [if_neg hc11] at hf
    refine lv_iload_n hx hb dX11_lines_8 rfl (lv_at hl 2 rfl) ?_
    obtain ⟨v5, h4, eh4, hf⟩ := zbp_s hf
    refine zr_callS (As := [.int x2]) kc_X11_196 hB hG (c_X11_isEdits eh4) rfl hl.1 rfl ⟨by decide, by decide⟩ (Nat.le_of_ble_eq_true rfl) ⟨by decide, by decide⟩ dX11_lines_9 (fun H locs hG => ?_)
    refine lv_if_ne (tgt := 18) hx hb dX11_lines_12 (by decide) (fun hc10 => ?_) (fun hc10 => ?_)
    · rw [if_neg hc10] at hf
      refine lv_aload_n hx hb dX11_lines_18 rfl (lv_at hl 0 rfl) ?_
      refine lv_iload_n hx hb dX11_lines_19 rfl (lv_at hl 1 rfl) ?_
      obtain ⟨o6, eo6, hf⟩ := zb hf
      obtain ⟨h7, eh7, hf⟩ := zb hf
      refine zr_callVv (As := [.int x1]) kc_X11_199 hB hG (c_X11_loadPattern eh7) eo6 rfl hl.1 rfl ⟨by decide, by decide⟩ (Nat.le_of_ble_eq_true rfl) ⟨by decide, by decide⟩ dX11_lines_20 (fun H locs hG => ?_)
      refine lv_aload_n hx hb dX11_lines_23 rfl (lv_at hl 0 rfl) ?_
      refine lv_iload_n hx hb dX11_lines_24 rfl (lv_at hl 3 rfl) ?_
      obtain ⟨h8, eh8, hf⟩ := zb hf
      refine zr_putZ hB hG zF_11 (by decide) kf_X11_185 rfl rfl eh8 dX11_lines_25 (fun H locs hG => ?_)
      refine lv_aload_n hx hb dX11_lines_28 rfl (lv_at hl 0 rfl) ?_
      refine lv_iconst (v := 0) hx hb dX11_lines_29 (by decide) ?_
      obtain ⟨h9, eh9, hf⟩ := zb hf
      refine zr_put hB hG zF_11 (by decide) kf_X11_220 rfl rfl rfl eh9 dX11_lines_30 (fun H locs hG => ?_)
      refine lv_iconst (v := 0) hx hb dX11_lines_33 (by decide) ?_
      refine lv_istore (lv' := [(4, .int (0 : Int32)), (0, .ref x0), (1, .int x1), (2, .int x2), (3, .int x3)]) hx hb dX11_lines_34 hl (by decide) rfl (fun ls hl => ?_)
      refine lv_iconst (v := 0) hx hb dX11_lines_36 (by decide) ?_
      refine lv_istore (lv' := [(5, .int (0 : Int32)), (4, .int (0 : Int32)), (0, .ref x0), (1, .int x1), (2, .int x2), (3, .int x3)]) hx hb dX11_lines_37 hl (by decide) rfl (fun ls hl => ?_)
      refine lv_iconst (v := 0) hx hb dX11_lines_39 (by decide) ?_
      refine lv_istore (lv' := [(6, .int (0 : Int32)), (5, .int (0 : Int32)), (4, .int (0 : Int32)), (0, .ref x0), (1, .int x1), (2, .int x2), (3, .int x3)]) hx hb dX11_lines_40 hl (by decide) rfl (fun ls hl => ?_)
      exact w_X11_lines_42 hB zFuel _ _ _ h9 (x0) (x2) ((0 : Int32)) ((0 : Int32)) ((0 : Int32)) hG (lv_sub hl [3, 5, 2, 1, 0] rfl) hf
    · rw [if_pos hc10] at hf
      exact w_X11_lines_15 hB _ _ _ h4  hG (lv_sub hl [] rfl) hf
end G_X11_lines
theorem c_X11_lines {l : Launch} {D : va_G} {K : Nat → ClassId} {b0 N : Nat} {h : zh_H} {x0 : Nat} {x1 : Int32} {x2 : Int32} {x3 : Int32} {r : Int32} {h2 : zh_H} (hf : b_X11_lines_0 h x0 x1 x2 x3 = some (r, h2)) : zc l yX11_lines cX11_lines 7 (some .int) 3 0 0 D K b0 N h [.ref x0, .int x1, .int x2, .int x3] (zq (some (.int r)) N h2) := by
  refine zc.of [(0, .ref x0), (1, .int x1), (2, .int x2), (3, .int x3)] (by decide) rfl (Nat.le_of_ble_eq_true rfl) ?_
  intro p e s m args below meth c hB hnm hG ls hl
  exact w_X11_lines_0 (res := (r, h2)) hB _ _ ls h x0 x1 x2 x3 hG (lv_sub hl [0, 1, 2, 3] rfl) hf

section G_X11_nearest
variable {p : Program} {l : Launch} {e : Env} {s : State} {m : MethodId} {args : Array Value} {below : List Frame} {meth : Method} {c : Code} {D : va_G} {K : Nat → ClassId} {b0 N : Nat}
set_option maxRecDepth 100000 in
set_option maxHeartbeats 4000000 in
theorem w_X11_nearest_17 {res : (Int32 × zh_H)} (hB : zc_B p s m args meth c cX11_nearest 7 RX11 (some .int) D K) : ∀ (H : Heap) (locs : List Loc) (ls : Array Slot) (h : zh_H), zh_G D K b0 N h s.heap H locs → lv_has ls 7 [] → b_X11_nearest_17 h  = some res → W p l e (zc_rm 2 0 0) s m args below meth c H locs 0 0 (MQ below (zc_Q D K b0 (zq (some (.int res.1)) N res.2)) args s 0 0 (fun q => b0 ≤ q)) (F0 m 17 ls []) := by
  have hx := hB.1
  have hb := hB.2.1
  intro H locs ls h  hG hl hf
  unfold b_X11_nearest_17 at hf
  refine lv_bipush (v := -2) hx hb dX11_nearest_17 (by decide) ?_
  obtain rfl := Option.some.inj hf
  exact zr_iret hB hG ⟨rfl, rfl, rfl⟩ dX11_nearest_19

set_option maxRecDepth 100000 in
set_option maxHeartbeats 4000000 in
theorem w_X11_nearest_110 {res : (Int32 × zh_H)} (hB : zc_B p s m args meth c cX11_nearest 7 RX11 (some .int) D K) {k63 : zh_H → Nat → Int32 → Int32 → Int32 → Int32 → Option (Int32 × zh_H)} (hk63 : ∀ (H : Heap) (locs : List Loc) (ls : Array Slot) (h : zh_H) (x0 : Nat) (x3 : Int32) (x4 : Int32) (x5 : Int32) (x6 : Int32), zh_G D K b0 N h s.heap H locs → lv_has ls 7 [(0, .ref x0), (3, .int x3), (4, .int x4), (5, .int x5), (6, .int x6)] → k63 h x0 x3 x4 x5 x6 = some res → W p l e (zc_rm 2 0 0) s m args below meth c H locs 0 0 (MQ below (zc_Q D K b0 (zq (some (.int res.1)) N res.2)) args s 0 0 (fun q => b0 ≤ q)) (F0 m 63 ls [])) : ∀ (H : Heap) (locs : List Loc) (ls : Array Slot) (h : zh_H) (x0 : Nat) (x3 : Int32) (x4 : Int32) (x5 : Int32) (x6 : Int32), zh_G D K b0 N h s.heap H locs → lv_has ls 7 [(0, .ref x0), (3, .int x3), (4, .int x4), (5, .int x5), (6, .int x6)] → b_X11_nearest_110 k63 h x0 x3 x4 x5 x6 = some res → W p l e (zc_rm 2 0 0) s m args below meth c H locs 0 0 (MQ below (zc_Q D K b0 (zq (some (.int res.1)) N res.2)) args s 0 0 (fun q => b0 ≤ q)) (F0 m 110 ls []) := by
  have hx := hB.1
  have hb := hB.2.1
  intro H locs ls h x0 x3 x4 x5 x6 hG hl hf
  unfold b_X11_nearest_110 at hf
  refine lv_iinc (v := (x6 + (1 : Int32))) (lv' := [(6, .int (x6 + (1 : Int32))), (0, .ref x0), (3, .int x3), (4, .int x4), (5, .int x5)]) hx hb dX11_nearest_110 hl (k := 4) rfl rfl (by decide) rfl (fun ls hl => ?_)
  refine lv_goto (tgt := 63) hx hb dX11_nearest_113 (by decide) ?_
  exact hk63 _ _ _ h (x0) (x3) (x4) (x5) ((x6 + (1 : Int32))) hG (lv_sub hl [1, 2, 3, 4, 0] rfl) hf

set_option maxRecDepth 100000 in
set_option maxHeartbeats 4000000 in
theorem w_X11_nearest_127 {res : (Int32 × zh_H)} (hB : zc_B p s m args meth c cX11_nearest 7 RX11 (some .int) D K) : ∀ (H : Heap) (locs : List Loc) (ls : Array Slot) (h : zh_H) (y0 : Int32), zh_G D K b0 N h s.heap H locs → lv_has ls 7 [] → b_X11_nearest_127 h y0 = some res → W p l e (zc_rm 2 0 0) s m args below meth c H locs 0 0 (MQ below (zc_Q D K b0 (zq (some (.int res.1)) N res.2)) args s 0 0 (fun q => b0 ≤ q)) (F0 m 127 ls [.int y0]) := by
  have hx := hB.1
  have hb := hB.2.1
  intro H locs ls h y0 hG hl hf
  unfold b_X11_nearest_127 at hf
  obtain rfl := Option.some.inj hf
  exact zr_iret hB hG ⟨rfl, rfl, rfl⟩ dX11_nearest_127

set_option maxRecDepth 100000 in
set_option maxHeartbeats 4000000 in
theorem w_X11_nearest_63 {res : (Int32 × zh_H)} (hB : zc_B p s m args meth c cX11_nearest 7 RX11 (some .int) D K) : ∀ n : Nat, ∀ (H : Heap) (locs : List Loc) (ls : Array Slot) (h : zh_H) (x0 : Nat) (x3 : Int32) (x4 : Int32) (x5 : Int32) (x6 : Int32), zh_G D K b0 N h s.heap H locs → lv_has ls 7 [(0, .ref x0), (3, .int x3), (4, .int x4), (5, .int x5), (6, .int x6)] → b_X11_nearest_63 n h x0 x3 x4 x5 x6 = some res → W p l e (zc_rm 2 0 0) s m args below meth c H locs 0 0 (MQ below (zc_Q D K b0 (zq (some (.int res.1)) N res.2)) args s 0 0 (fun q => b0 ≤ q)) (F0 m 63 ls []) := by
  have hx := hB.1
  have hb := hB.2.1
  intro n
  induction n with
  | zero =>
    intro H locs ls h x0 x3 x4 x5 x6 hG hl hf
    cases hf
  | succ n ih =>
    intro H locs ls h x0 x3 x4 x5 x6 hG hl hf
    unfold b_X11_nearest_63 at hf
    refine lv_iload hx hb dX11_nearest_63 (lv_at hl 4 rfl) ?_
    refine lv_aload_n hx hb dX11_nearest_65 rfl (lv_at hl 0 rfl) ?_
    obtain ⟨v1, ev1, hf⟩ := zb hf
    refine zr_getI hB hG zF_11 (by decide) kf_X11_175 ev1 dX11_nearest_66 ?_
    refine lv_icmp_ge (tgt := 116) hx hb dX11_nearest_69 (by decide) (fun hc12 => ?_) (fun hc12 => ?_)
    · rw [if_pos hc12] at hf
      refine lv_iload_n hx hb dX11_nearest_116 rfl (lv_at hl 1 rfl) ?_
      refine lv_if_ne (tgt := 125) hx hb dX11_nearest_117 (by decide) (fun hc2 => ?_) (fun hc2 => ?_)
      · rw [if_neg hc2] at hf
        refine lv_iload hx hb dX11_nearest_125 (lv_at hl 3 rfl) ?_
        exact w_X11_nearest_127 hB _ _ _ h (x5) hG (lv_sub hl [] rfl) hf
      · rw [if_pos hc2] at hf
        refine lv_iload hx hb dX11_nearest_120 (lv_at hl 2 rfl) ?_
        refine lv_goto (tgt := 127) hx hb dX11_nearest_122 (by decide) ?_
        exact w_X11_nearest_127 hB _ _ _ h (x4) hG (lv_sub hl [] rfl) hf
    · rw [if_neg hc12] at hf
      refine lv_aload_n hx hb dX11_nearest_72 rfl (lv_at hl 0 rfl) ?_
      refine lv_iload hx hb dX11_nearest_73 (lv_at hl 4 rfl) ?_
      refine lv_iconst (v := 1) hx hb dX11_nearest_75 (by decide) ?_
      obtain ⟨o3, eo3, hf⟩ := zb hf
      obtain ⟨h4, eh4, hf⟩ := zb hf
      refine zr_callVv (As := [.int x6, .int (1 : Int32)]) kc_X11_192 hB hG (c_X11_column eh4) eo3 rfl hl.1 rfl ⟨by decide, by decide⟩ (Nat.le_of_ble_eq_true rfl) ⟨by decide, by decide⟩ dX11_nearest_76 (fun H locs hG => ?_)
      refine lv_aload_n hx hb dX11_nearest_79 rfl (lv_at hl 0 rfl) ?_
      obtain ⟨a5, ea5, hf⟩ := zb hf
      refine zr_getR hB hG zF_11 (by decide) kf_X11_51 ea5 dX11_nearest_80 ?_
      refine lv_aload_n hx hb dX11_nearest_83 rfl (lv_at hl 0 rfl) ?_
      obtain ⟨v6, ev6, hf⟩ := zb hf
      refine zr_getI hB hG zF_11 (by decide) kf_X11_172 ev6 dX11_nearest_84 ?_
      obtain ⟨v7, ev7, hf⟩ := zb hf
      refine zr_iald hB hG ev7 dX11_nearest_87 ?_
      refine lv_iload hx hb dX11_nearest_88 (lv_at hl 2 rfl) ?_
      refine lv_icmp_ge (tgt := 110) hx hb dX11_nearest_90 (by decide) (fun hc11 => ?_) (fun hc11 => ?_)
      · rw [if_pos hc11] at hf
        exact w_X11_nearest_110 hB ih _ _ _ h4 (x0) (x3) (x4) (x5) (x6) hG (lv_sub hl [0, 1, 2, 3, 4] rfl) hf
      · rw [if_neg hc11] at hf
        refine lv_aload_n hx hb dX11_nearest_93 rfl (lv_at hl 0 rfl) ?_
        obtain ⟨a8, ea8, hf⟩ := zb hf
        refine zr_getR hB hG zF_11 (by decide) kf_X11_51 ea8 dX11_nearest_94 ?_
        refine lv_aload_n hx hb dX11_nearest_97 rfl (lv_at hl 0 rfl) ?_
        obtain ⟨v9, ev9, hf⟩ := zb hf
        refine zr_getI hB hG zF_11 (by decide) kf_X11_172 ev9 dX11_nearest_98 ?_
        obtain ⟨v10, ev10, hf⟩ := zb hf
        refine zr_iald hB hG ev10 dX11_nearest_101 ?_
        refine lv_istore (lv' := [(4, .int v10), (0, .ref x0), (3, .int x3), (5, .int x5), (6, .int x6)]) hx hb dX11_nearest_102 hl (by decide) rfl (fun ls hl => ?_)
        refine lv_iload hx hb dX11_nearest_104 (lv_at hl 4 rfl) ?_
        refine lv_iconst (v := 1) hx hb dX11_nearest_106 (by decide) ?_
        refine lv_iadd hx hb dX11_nearest_107 ?_
        refine lv_istore (lv' := [(5, .int (x6 + (1 : Int32))), (4, .int v10), (0, .ref x0), (3, .int x3), (6, .int x6)]) hx hb dX11_nearest_108 hl (by decide) rfl (fun ls hl => ?_)
        exact w_X11_nearest_110 hB ih _ _ _ h4 (x0) (x3) (v10) ((x6 + (1 : Int32))) (x6) hG (lv_sub hl [2, 3, 1, 0, 4] rfl) hf

set_option maxRecDepth 100000 in
set_option maxHeartbeats 4000000 in
theorem w_X11_nearest_0 {res : (Int32 × zh_H)} (hB : zc_B p s m args meth c cX11_nearest 7 RX11 (some .int) D K) : ∀ (H : Heap) (locs : List Loc) (ls : Array Slot) (h : zh_H) (x0 : Nat) (x1 : Int32) (x2 : Int32) (x3 : Int32), zh_G D K b0 N h s.heap H locs → lv_has ls 7 [(0, .ref x0), (1, .int x1), (2, .int x2), (3, .int x3)] → b_X11_nearest_0 h x0 x1 x2 x3 = some res → W p l e (zc_rm 2 0 0) s m args below meth c H locs 0 0 (MQ below (zc_Q D K b0 (zq (some (.int res.1)) N res.2)) args s 0 0 (fun q => b0 ≤ q)) (F0 m 0 ls []) := by
  have hx := hB.1
  have hb := hB.2.1
  intro H locs ls h x0 x1 x2 x3 hG hl hf
  unfold b_X11_nearest_0 at hf
  refine lv_aload_n hx hb dX11_nearest_0 rfl (lv_at hl 0 rfl) ?_
  refine lv_iload_n hx hb dX11_nearest_1 rfl (lv_at hl 1 rfl) ?_
  obtain ⟨o1, eo1, hf⟩ := zb hf
  obtain ⟨v3, h2, eh2, hf⟩ := zbp_s hf
  refine zr_callV (As := [.int x1]) kc_X11_156 hB hG (c_X11_isThere eh2) eo1 rfl hl.1 rfl ⟨by decide, by decide⟩ (Nat.le_of_ble_eq_true rfl) ⟨by decide, by decide⟩ dX11_nearest_2 (fun H locs hG => ?_)
  refine lv_if_eq (tgt := 17) hx hb dX11_nearest_5 (by decide) (fun hc17 => ?_) (fun hc17 => ?_)
  · rw [if_pos hc17] at hf
    exact w_X11_nearest_17 hB _ _ _ h2  hG (lv_sub hl [] rfl) hf
  · rw [if_neg hc17] at hf
    refine lv_iload_n hx hb dX11_nearest_8 rfl (lv_at hl 3 rfl) ?_
    refine lv_iconst (v := 0) hx hb dX11_nearest_9 (by decide) ?_
    refine lv_iconst (v := 1) hx hb dX11_nearest_10 (by decide) ?_
    obtain ⟨v5, h4, eh4, hf⟩ := zbp_s hf
    refine zr_callS (As := [.int x3, .int (0 : Int32), .int (1 : Int32)]) kc_X11_100 hB hG (c_X11_in eh4) rfl hl.1 rfl ⟨by decide, by decide⟩ (Nat.le_of_ble_eq_true rfl) ⟨by decide, by decide⟩ dX11_nearest_11 (fun H locs hG => ?_)
    refine lv_if_ne (tgt := 20) hx hb dX11_nearest_14 (by decide) (fun hc16 => ?_) (fun hc16 => ?_)
    · rw [if_neg hc16] at hf
      refine lv_aload_n hx hb dX11_nearest_20 rfl (lv_at hl 0 rfl) ?_
      obtain ⟨v6, ev6, hf⟩ := zb hf
      refine zr_getI hB hG zF_11 (by decide) kf_X11_162 ev6 dX11_nearest_21 ?_
      refine lv_if_ne (tgt := 29) hx hb dX11_nearest_24 (by decide) (fun hc15 => ?_) (fun hc15 => ?_)
      · rw [if_neg hc15] at hf
        refine lv_aload_n hx hb dX11_nearest_29 rfl (lv_at hl 0 rfl) ?_
        refine lv_iload_n hx hb dX11_nearest_30 rfl (lv_at hl 1 rfl) ?_
        obtain ⟨o7, eo7, hf⟩ := zb hf
        obtain ⟨h8, eh8, hf⟩ := zb hf
        refine zr_callVv (As := [.int x1]) kc_X11_199 hB hG (c_X11_loadPattern eh8) eo7 rfl hl.1 rfl ⟨by decide, by decide⟩ (Nat.le_of_ble_eq_true rfl) ⟨by decide, by decide⟩ dX11_nearest_31 (fun H locs hG => ?_)
        refine lv_aload_n hx hb dX11_nearest_34 rfl (lv_at hl 0 rfl) ?_
        refine lv_iconst (v := 0) hx hb dX11_nearest_35 (by decide) ?_
        refine lv_aload_n hx hb dX11_nearest_36 rfl (lv_at hl 0 rfl) ?_
        obtain ⟨v9, ev9, hf⟩ := zb hf
        refine zr_getI hB hG zF_11 (by decide) kf_X11_162 ev9 dX11_nearest_37 ?_
        obtain ⟨o10, eo10, hf⟩ := zb hf
        obtain ⟨h11, eh11, hf⟩ := zb hf
        refine zr_callVv (As := [.int (0 : Int32), .int v9]) kc_X11_202 hB hG (c_X11_loadBytes eh11) eo10 rfl hl.1 rfl ⟨by decide, by decide⟩ (Nat.le_of_ble_eq_true rfl) ⟨by decide, by decide⟩ dX11_nearest_40 (fun H locs hG => ?_)
        refine lv_aload_n hx hb dX11_nearest_43 rfl (lv_at hl 0 rfl) ?_
        refine lv_iload_n hx hb dX11_nearest_44 rfl (lv_at hl 2 rfl) ?_
        obtain ⟨h12, eh12, hf⟩ := zb hf
        refine zr_putZ hB hG zF_11 (by decide) kf_X11_185 rfl rfl eh12 dX11_nearest_45 (fun H locs hG => ?_)
        refine lv_sipush (v := 10000) hx hb dX11_nearest_48 (by decide) ?_
        refine lv_istore (lv' := [(4, .int (10000 : Int32)), (0, .ref x0), (1, .int x1), (2, .int x2), (3, .int x3)]) hx hb dX11_nearest_51 hl (by decide) rfl (fun ls hl => ?_)
        refine lv_iconst (v := 0) hx hb dX11_nearest_53 (by decide) ?_
        refine lv_istore (lv' := [(5, .int (0 : Int32)), (4, .int (10000 : Int32)), (0, .ref x0), (1, .int x1), (2, .int x2), (3, .int x3)]) hx hb dX11_nearest_54 hl (by decide) rfl (fun ls hl => ?_)
        refine lv_aload_n hx hb dX11_nearest_56 rfl (lv_at hl 2 rfl) ?_
        obtain ⟨o13, eo13, hf⟩ := zb hf
        obtain ⟨h14, eh14, hf⟩ := zb hf
        refine zr_callVv (As := []) kc_X11_189 hB hG (c_X11_firstColumn eh14) eo13 rfl hl.1 rfl ⟨by decide, by decide⟩ (Nat.le_of_ble_eq_true rfl) ⟨by decide, by decide⟩ dX11_nearest_57 (fun H locs hG => ?_)
        refine lv_iconst (v := 0) hx hb dX11_nearest_60 (by decide) ?_
        refine lv_istore (lv' := [(6, .int (0 : Int32)), (5, .int (0 : Int32)), (4, .int (10000 : Int32)), (0, .ref x0), (1, .int x1), (2, .int x2), (3, .int x3)]) hx hb dX11_nearest_61 hl (by decide) rfl (fun ls hl => ?_)
        exact w_X11_nearest_63 hB zFuel _ _ _ h14 (x0) (x3) ((10000 : Int32)) ((0 : Int32)) ((0 : Int32)) hG (lv_sub hl [3, 6, 2, 1, 0] rfl) hf
      · rw [if_pos hc15] at hf
        refine lv_iconst (v := -1) hx hb dX11_nearest_27 (by decide) ?_
        obtain rfl := Option.some.inj hf
        exact zr_iret hB hG ⟨rfl, rfl, rfl⟩ dX11_nearest_28
    · rw [if_pos hc16] at hf
      exact w_X11_nearest_17 hB _ _ _ h4  hG (lv_sub hl [] rfl) hf
end G_X11_nearest
theorem c_X11_nearest {l : Launch} {D : va_G} {K : Nat → ClassId} {b0 N : Nat} {h : zh_H} {x0 : Nat} {x1 : Int32} {x2 : Int32} {x3 : Int32} {r : Int32} {h2 : zh_H} (hf : b_X11_nearest_0 h x0 x1 x2 x3 = some (r, h2)) : zc l yX11_nearest cX11_nearest 7 (some .int) 2 0 0 D K b0 N h [.ref x0, .int x1, .int x2, .int x3] (zq (some (.int r)) N h2) := by
  refine zc.of [(0, .ref x0), (1, .int x1), (2, .int x2), (3, .int x3)] (by decide) rfl (Nat.le_of_ble_eq_true rfl) ?_
  intro p e s m args below meth c hB hnm hG ls hl
  exact w_X11_nearest_0 (res := (r, h2)) hB _ _ ls h x0 x1 x2 x3 hG (lv_sub hl [0, 1, 2, 3] rfl) hf

