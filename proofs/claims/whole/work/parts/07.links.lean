set_option maxRecDepth 20000 in
theorem k_oi : Cond.instanceMethod Lib.objectInit ∈ lw_tbl := by decide +kernel
set_option maxRecDepth 20000 in
theorem k_oc : Cond.code Lib.objectInit ⟨#[0xb1]⟩ 1 none ∈ lw_tbl := by decide +kernel
set_option maxRecDepth 20000 in
theorem k_Mi : Cond.initialized "java/lang/Math" ∈ lw_tbl := by decide +kernel
set_option maxRecDepth 20000 in
theorem k_acn : Cond.native arraycopyName ∈ lw_tbl := by decide +kernel
set_option maxRecDepth 20000 in
theorem k_acs : Cond.static arraycopyName ∈ lw_tbl := by decide +kernel
set_option maxRecDepth 20000 in
theorem k_aci : Cond.initialized "java/lang/System" ∈ lw_tbl := by decide +kernel
set_option maxRecDepth 20000 in
theorem k_nst : Cond.static yX10_isByte ∈ lw_tbl := by decide +kernel
set_option maxRecDepth 20000 in
theorem k_nco : Cond.code yX10_isByte cX10_isByte 1 (some .boolean) ∈ lw_tbl := by decide +kernel
set_option maxRecDepth 20000 in
theorem k_min : Cond.static Lib.Math.min.name ∈ lw_tbl := by decide +kernel
set_option maxRecDepth 20000 in
theorem k_minc : Cond.code Lib.Math.min.name Lib.Math.min.code 2 (some .int) ∈ lw_tbl := by decide +kernel
set_option maxRecDepth 20000 in
theorem k_max : Cond.static Lib.Math.max.name ∈ lw_tbl := by decide +kernel
set_option maxRecDepth 20000 in
theorem k_maxc : Cond.code Lib.Math.max.name Lib.Math.max.code 2 (some .int) ∈ lw_tbl := by decide +kernel
set_option maxRecDepth 20000 in
theorem k_abs : Cond.static Lib.Math.abs.name ∈ lw_tbl := by decide +kernel
set_option maxRecDepth 20000 in
theorem k_absc : Cond.code Lib.Math.abs.name Lib.Math.abs.code 1 (some .int) ∈ lw_tbl := by decide +kernel
set_option maxRecDepth 20000 in
theorem ka_0 : Cond.arrayClass .byte ∈ lw_tbl := by decide +kernel
set_option maxRecDepth 20000 in
theorem ka_1 : Cond.arrayClass .int ∈ lw_tbl := by decide +kernel
set_option maxRecDepth 20000 in
theorem ka_2 : Cond.arrayClass .long ∈ lw_tbl := by decide +kernel
set_option maxRecDepth 20000 in
theorem zF_0 : zF 0 RX0 TX0 2 tyX0 := ⟨rfl, inX0, tyX0_ok, nmX0⟩
set_option maxRecDepth 20000 in
theorem ki_0 : Cond.instantiable RX0 2 ∈ lw_tbl := by decide +kernel
set_option maxRecDepth 20000 in
theorem kn_0 : Cond.initialized RX0 ∈ lw_tbl := by decide +kernel
set_option maxRecDepth 20000 in
theorem zF_1 : zF 1 RX1 TX1 3 tyX1 := ⟨rfl, inX1, tyX1_ok, nmX1⟩
set_option maxRecDepth 20000 in
theorem ki_1 : Cond.instantiable RX1 3 ∈ lw_tbl := by decide +kernel
set_option maxRecDepth 20000 in
theorem kn_1 : Cond.initialized RX1 ∈ lw_tbl := by decide +kernel
set_option maxRecDepth 20000 in
theorem zF_2 : zF 2 RX2 TX2 9 tyX2 := ⟨rfl, inX2, tyX2_ok, nmX2⟩
set_option maxRecDepth 20000 in
theorem ki_2 : Cond.instantiable RX2 9 ∈ lw_tbl := by decide +kernel
set_option maxRecDepth 20000 in
theorem kn_2 : Cond.initialized RX2 ∈ lw_tbl := by decide +kernel
set_option maxRecDepth 20000 in
theorem zF_3 : zF 3 RX3 TX3 2 tyX3 := ⟨rfl, inX3, tyX3_ok, nmX3⟩
set_option maxRecDepth 20000 in
theorem ki_3 : Cond.instantiable RX3 2 ∈ lw_tbl := by decide +kernel
set_option maxRecDepth 20000 in
theorem kn_3 : Cond.initialized RX3 ∈ lw_tbl := by decide +kernel
set_option maxRecDepth 20000 in
theorem zF_4 : zF 4 RX4 TX4 7 tyX4 := ⟨rfl, inX4, tyX4_ok, nmX4⟩
set_option maxRecDepth 20000 in
theorem ki_4 : Cond.instantiable RX4 7 ∈ lw_tbl := by decide +kernel
set_option maxRecDepth 20000 in
theorem kn_4 : Cond.initialized RX4 ∈ lw_tbl := by decide +kernel
set_option maxRecDepth 20000 in
theorem zF_5 : zF 5 RX5 TX5 16 tyX5 := ⟨rfl, inX5, tyX5_ok, nmX5⟩
set_option maxRecDepth 20000 in
theorem ki_5 : Cond.instantiable RX5 16 ∈ lw_tbl := by decide +kernel
set_option maxRecDepth 20000 in
theorem kn_5 : Cond.initialized RX5 ∈ lw_tbl := by decide +kernel
set_option maxRecDepth 20000 in
theorem zF_6 : zF 6 RX6 TX6 11 tyX6 := ⟨rfl, inX6, tyX6_ok, nmX6⟩
set_option maxRecDepth 20000 in
theorem ki_6 : Cond.instantiable RX6 11 ∈ lw_tbl := by decide +kernel
set_option maxRecDepth 20000 in
theorem kn_6 : Cond.initialized RX6 ∈ lw_tbl := by decide +kernel
set_option maxRecDepth 20000 in
theorem zF_7 : zF 7 RX7 TX7 3 tyX7 := ⟨rfl, inX7, tyX7_ok, nmX7⟩
set_option maxRecDepth 20000 in
theorem ki_7 : Cond.instantiable RX7 3 ∈ lw_tbl := by decide +kernel
set_option maxRecDepth 20000 in
theorem kn_7 : Cond.initialized RX7 ∈ lw_tbl := by decide +kernel
set_option maxRecDepth 20000 in
theorem zF_8 : zF 8 RX8 TX8 3 tyX8 := ⟨rfl, inX8, tyX8_ok, nmX8⟩
set_option maxRecDepth 20000 in
theorem ki_8 : Cond.instantiable RX8 3 ∈ lw_tbl := by decide +kernel
set_option maxRecDepth 20000 in
theorem kn_8 : Cond.initialized RX8 ∈ lw_tbl := by decide +kernel
set_option maxRecDepth 20000 in
theorem zF_9 : zF 9 RX9 TX9 2 tyX9 := ⟨rfl, inX9, tyX9_ok, nmX9⟩
set_option maxRecDepth 20000 in
theorem ki_9 : Cond.instantiable RX9 2 ∈ lw_tbl := by decide +kernel
set_option maxRecDepth 20000 in
theorem kn_9 : Cond.initialized RX9 ∈ lw_tbl := by decide +kernel
set_option maxRecDepth 20000 in
theorem zF_10 : zF 10 RX10 TX10 11 tyX10 := ⟨rfl, inX10, tyX10_ok, nmX10⟩
set_option maxRecDepth 20000 in
theorem ki_10 : Cond.instantiable RX10 11 ∈ lw_tbl := by decide +kernel
set_option maxRecDepth 20000 in
theorem kn_10 : Cond.initialized RX10 ∈ lw_tbl := by decide +kernel
set_option maxRecDepth 20000 in
theorem zF_11 : zF 11 RX11 TX11 46 tyX11 := ⟨rfl, inX11, tyX11_ok, nmX11⟩
set_option maxRecDepth 20000 in
theorem ki_11 : Cond.instantiable RX11 46 ∈ lw_tbl := by decide +kernel
set_option maxRecDepth 20000 in
theorem kn_11 : Cond.initialized RX11 ∈ lw_tbl := by decide +kernel
set_option maxRecDepth 20000 in
theorem km_X0_3 : Cond.methodLink RX0 3 Lib.objectInit ∈ lw_tbl := by decide +kernel
set_option maxRecDepth 20000 in
theorem km_X0_9 : Cond.methodLink RX0 9 Lib.Math.max.name ∈ lw_tbl := by decide +kernel
set_option maxRecDepth 20000 in
theorem kf_X0_15 : Cond.fieldLink RX0 15 (TX0 0).1 (TX0 0).2.1 (TX0 0).2.2.1 ∈ lw_tbl := by decide +kernel
set_option maxRecDepth 20000 in
theorem kf_X0_21 : Cond.fieldLink RX0 21 (TX0 1).1 (TX0 1).2.1 (TX0 1).2.2.1 ∈ lw_tbl := by decide +kernel
set_option maxRecDepth 20000 in
theorem kco_X0_isPart : Cond.code yX0_isPart cX0_isPart 3 (some .boolean) ∈ lw_tbl := by decide +kernel
set_option maxRecDepth 20000 in
theorem kc_X0_25 : zSV RX0 25 yX0_isPart cX0_isPart 3 (some .boolean) 2 0 := ⟨⟨by decide +kernel, kco_X0_isPart, kn_0, by decide +kernel⟩, by decide +kernel, by decide +kernel, _, rfl, rfl⟩
set_option maxRecDepth 20000 in
theorem km_X0_29 : Cond.methodLink RX0 29 arraycopyName ∈ lw_tbl := by decide +kernel
set_option maxRecDepth 20000 in
theorem kco_X0_clear : Cond.code yX0_clear cX0_clear 1 none ∈ lw_tbl := by decide +kernel
set_option maxRecDepth 20000 in
theorem kc_X0_35 : zSV RX0 35 yX0_clear cX0_clear 1 none 0 0 := ⟨⟨by decide +kernel, kco_X0_clear, kn_0, by decide +kernel⟩, by decide +kernel, by decide +kernel, _, rfl, rfl⟩
set_option maxRecDepth 20000 in
theorem kco_X0_addPart : Cond.code yX0_addPart cX0_addPart 4 (some .boolean) ∈ lw_tbl := by decide +kernel
set_option maxRecDepth 20000 in
theorem kc_X0_38 : zSV RX0 38 yX0_addPart cX0_addPart 4 (some .boolean) 3 0 := ⟨⟨by decide +kernel, kco_X0_addPart, kn_0, by decide +kernel⟩, by decide +kernel, by decide +kernel, _, rfl, rfl⟩
set_option maxRecDepth 20000 in
theorem km_X1_3 : Cond.methodLink RX1 3 Lib.objectInit ∈ lw_tbl := by decide +kernel
set_option maxRecDepth 20000 in
theorem kq_X1_9 : Cond.classLink RX1 9 RX0 ∈ lw_tbl := by decide +kernel
set_option maxRecDepth 20000 in
theorem kf_X1_11 : Cond.fieldLink RX1 11 (TX1 0).1 (TX1 0).2.1 (TX1 0).2.2.1 ∈ lw_tbl := by decide +kernel
set_option maxRecDepth 20000 in
theorem kco_X0_init : Cond.code yX0_init cX0_init 2 none ∈ lw_tbl := by decide +kernel
set_option maxRecDepth 20000 in
theorem kc_X1_17 : zSI RX1 17 yX0_init cX0_init 2 1 := ⟨⟨by decide +kernel, kco_X0_init, kn_0, by decide +kernel⟩, by decide +kernel, by decide +kernel⟩
set_option maxRecDepth 20000 in
theorem kf_X1_20 : Cond.fieldLink RX1 20 (TX1 1).1 (TX1 1).2.1 (TX1 1).2.2.1 ∈ lw_tbl := by decide +kernel
set_option maxRecDepth 20000 in
theorem kco_X0_copyFrom : Cond.code yX0_copyFrom cX0_copyFrom 2 none ∈ lw_tbl := by decide +kernel
set_option maxRecDepth 20000 in
theorem kc_X1_24 : zSV RX1 24 yX0_copyFrom cX0_copyFrom 2 none 1 0 := ⟨⟨by decide +kernel, kco_X0_copyFrom, kn_0, by decide +kernel⟩, by decide +kernel, by decide +kernel, _, rfl, rfl⟩
set_option maxRecDepth 20000 in
theorem kf_X1_28 : Cond.fieldLink RX1 28 (TX1 2).1 (TX1 2).2.1 (TX1 2).2.2.1 ∈ lw_tbl := by decide +kernel
set_option maxRecDepth 20000 in
theorem km_X1_31 : Cond.methodLink RX1 31 Lib.Math.min.name ∈ lw_tbl := by decide +kernel
set_option maxRecDepth 20000 in
theorem km_X2_3 : Cond.methodLink RX2 3 Lib.objectInit ∈ lw_tbl := by decide +kernel
set_option maxRecDepth 20000 in
theorem kq_X2_9 : Cond.classLink RX2 9 RX0 ∈ lw_tbl := by decide +kernel
set_option maxRecDepth 20000 in
theorem kc_X2_11 : zSI RX2 11 yX0_init cX0_init 2 1 := ⟨⟨by decide +kernel, kco_X0_init, kn_0, by decide +kernel⟩, by decide +kernel, by decide +kernel⟩
set_option maxRecDepth 20000 in
theorem kf_X2_14 : Cond.fieldLink RX2 14 (TX2 0).1 (TX2 0).2.1 (TX2 0).2.2.1 ∈ lw_tbl := by decide +kernel
set_option maxRecDepth 20000 in
theorem kq_X2_20 : Cond.classLink RX2 20 RX7 ∈ lw_tbl := by decide +kernel
set_option maxRecDepth 20000 in
theorem kco_X7_init : Cond.code yX7_init cX7_init 2 none ∈ lw_tbl := by decide +kernel
set_option maxRecDepth 20000 in
theorem kc_X2_22 : zSI RX2 22 yX7_init cX7_init 2 1 := ⟨⟨by decide +kernel, kco_X7_init, kn_7, by decide +kernel⟩, by decide +kernel, by decide +kernel⟩
set_option maxRecDepth 20000 in
theorem kf_X2_23 : Cond.fieldLink RX2 23 (TX2 1).1 (TX2 1).2.1 (TX2 1).2.2.1 ∈ lw_tbl := by decide +kernel
set_option maxRecDepth 20000 in
theorem kf_X2_27 : Cond.fieldLink RX2 27 (TX2 3).1 (TX2 3).2.1 (TX2 3).2.2.1 ∈ lw_tbl := by decide +kernel
set_option maxRecDepth 20000 in
theorem kq_X2_31 : Cond.classLink RX2 31 RX9 ∈ lw_tbl := by decide +kernel
set_option maxRecDepth 20000 in
theorem kco_X9_init : Cond.code yX9_init cX9_init 1 none ∈ lw_tbl := by decide +kernel
set_option maxRecDepth 20000 in
theorem kc_X2_33 : zSI RX2 33 yX9_init cX9_init 1 0 := ⟨⟨by decide +kernel, kco_X9_init, kn_9, by decide +kernel⟩, by decide +kernel, by decide +kernel⟩
set_option maxRecDepth 20000 in
theorem kf_X2_34 : Cond.fieldLink RX2 34 (TX2 4).1 (TX2 4).2.1 (TX2 4).2.2.1 ∈ lw_tbl := by decide +kernel
set_option maxRecDepth 20000 in
theorem kf_X2_38 : Cond.fieldLink RX2 38 (TX2 5).1 (TX2 5).2.1 (TX2 5).2.2.1 ∈ lw_tbl := by decide +kernel
set_option maxRecDepth 20000 in
theorem kf_X2_42 : Cond.fieldLink RX2 42 (TX2 6).1 (TX2 6).2.1 (TX2 6).2.2.1 ∈ lw_tbl := by decide +kernel
set_option maxRecDepth 20000 in
theorem kf_X2_45 : Cond.fieldLink RX2 45 (TX2 7).1 (TX2 7).2.1 (TX2 7).2.2.1 ∈ lw_tbl := by decide +kernel
set_option maxRecDepth 20000 in
theorem kco_X7_copyFrom : Cond.code yX7_copyFrom cX7_copyFrom 3 none ∈ lw_tbl := by decide +kernel
set_option maxRecDepth 20000 in
theorem kc_X2_48 : zSV RX2 48 yX7_copyFrom cX7_copyFrom 3 none 1 7 := ⟨⟨by decide +kernel, kco_X7_copyFrom, kn_7, by decide +kernel⟩, by decide +kernel, by decide +kernel, _, rfl, rfl⟩
set_option maxRecDepth 20000 in
theorem kc_X2_52 : zSV RX2 52 yX0_copyFrom cX0_copyFrom 2 none 1 0 := ⟨⟨by decide +kernel, kco_X0_copyFrom, kn_0, by decide +kernel⟩, by decide +kernel, by decide +kernel, _, rfl, rfl⟩
set_option maxRecDepth 20000 in
theorem kf_X2_55 : Cond.fieldLink RX2 55 (TX2 2).1 (TX2 2).2.1 (TX2 2).2.2.1 ∈ lw_tbl := by decide +kernel
set_option maxRecDepth 20000 in
theorem kf_X2_59 : Cond.fieldLink RX2 59 (TX2 8).1 (TX2 8).2.1 (TX2 8).2.2.1 ∈ lw_tbl := by decide +kernel
set_option maxRecDepth 20000 in
theorem kco_X5_trace : Cond.code yX5_trace cX5_trace 8 none ∈ lw_tbl := by decide +kernel
set_option maxRecDepth 20000 in
theorem kc_X2_62 : zSV RX2 62 yX5_trace cX5_trace 8 none 7 5 := ⟨⟨by decide +kernel, kco_X5_trace, kn_5, by decide +kernel⟩, by decide +kernel, by decide +kernel, _, rfl, rfl⟩
set_option maxRecDepth 20000 in
theorem km_X3_3 : Cond.methodLink RX3 3 Lib.objectInit ∈ lw_tbl := by decide +kernel
set_option maxRecDepth 20000 in
theorem kf_X3_9 : Cond.fieldLink RX3 9 (TX3 0).1 (TX3 0).2.1 (TX3 0).2.2.1 ∈ lw_tbl := by decide +kernel
set_option maxRecDepth 20000 in
theorem kf_X3_15 : Cond.fieldLink RX3 15 (TX3 1).1 (TX3 1).2.1 (TX3 1).2.2.1 ∈ lw_tbl := by decide +kernel
set_option maxRecDepth 20000 in
theorem km_X4_3 : Cond.methodLink RX4 3 Lib.objectInit ∈ lw_tbl := by decide +kernel
set_option maxRecDepth 20000 in
theorem kq_X4_9 : Cond.classLink RX4 9 RX0 ∈ lw_tbl := by decide +kernel
set_option maxRecDepth 20000 in
theorem kc_X4_11 : zSI RX4 11 yX0_init cX0_init 2 1 := ⟨⟨by decide +kernel, kco_X0_init, kn_0, by decide +kernel⟩, by decide +kernel, by decide +kernel⟩
set_option maxRecDepth 20000 in
theorem kf_X4_14 : Cond.fieldLink RX4 14 (TX4 0).1 (TX4 0).2.1 (TX4 0).2.2.1 ∈ lw_tbl := by decide +kernel
set_option maxRecDepth 20000 in
theorem kq_X4_20 : Cond.classLink RX4 20 RX7 ∈ lw_tbl := by decide +kernel
set_option maxRecDepth 20000 in
theorem kc_X4_22 : zSI RX4 22 yX7_init cX7_init 2 1 := ⟨⟨by decide +kernel, kco_X7_init, kn_7, by decide +kernel⟩, by decide +kernel, by decide +kernel⟩
set_option maxRecDepth 20000 in
theorem kf_X4_23 : Cond.fieldLink RX4 23 (TX4 4).1 (TX4 4).2.1 (TX4 4).2.2.1 ∈ lw_tbl := by decide +kernel
set_option maxRecDepth 20000 in
theorem kf_X4_27 : Cond.fieldLink RX4 27 (TX4 6).1 (TX4 6).2.1 (TX4 6).2.2.1 ∈ lw_tbl := by decide +kernel
set_option maxRecDepth 20000 in
theorem kf_X4_31 : Cond.fieldLink RX4 31 (TX4 1).1 (TX4 1).2.1 (TX4 1).2.2.1 ∈ lw_tbl := by decide +kernel
set_option maxRecDepth 20000 in
theorem kf_X4_34 : Cond.fieldLink RX4 34 (TX4 5).1 (TX4 5).2.1 (TX4 5).2.2.1 ∈ lw_tbl := by decide +kernel
set_option maxRecDepth 20000 in
theorem kco_X7_clear : Cond.code yX7_clear cX7_clear 1 none ∈ lw_tbl := by decide +kernel
set_option maxRecDepth 20000 in
theorem kc_X4_37 : zSV RX4 37 yX7_clear cX7_clear 1 none 0 7 := ⟨⟨by decide +kernel, kco_X7_clear, kn_7, by decide +kernel⟩, by decide +kernel, by decide +kernel, _, rfl, rfl⟩
set_option maxRecDepth 20000 in
theorem kf_X4_40 : Cond.fieldLink RX4 40 (TX0 1).1 (TX0 1).2.1 (TX0 1).2.2.1 ∈ lw_tbl := by decide +kernel
set_option maxRecDepth 20000 in
theorem kco_X4_fail : Cond.code yX4_fail cX4_fail 3 none ∈ lw_tbl := by decide +kernel
set_option maxRecDepth 20000 in
theorem kc_X4_43 : zSV RX4 43 yX4_fail cX4_fail 3 none 2 4 := ⟨⟨by decide +kernel, kco_X4_fail, kn_4, by decide +kernel⟩, by decide +kernel, by decide +kernel, _, rfl, rfl⟩
set_option maxRecDepth 20000 in
theorem kco_X4_readElement : Cond.code yX4_readElement cX4_readElement 3 none ∈ lw_tbl := by decide +kernel
set_option maxRecDepth 20000 in
theorem kc_X4_47 : zSV RX4 47 yX4_readElement cX4_readElement 3 none 0 4 := ⟨⟨by decide +kernel, kco_X4_readElement, kn_4, by decide +kernel⟩, by decide +kernel, by decide +kernel, _, rfl, rfl⟩
set_option maxRecDepth 20000 in
theorem kco_X0_get : Cond.code yX0_get cX0_get 2 (some .int) ∈ lw_tbl := by decide +kernel
set_option maxRecDepth 20000 in
theorem kc_X4_50 : zSV RX4 50 yX0_get cX0_get 2 (some .int) 1 0 := ⟨⟨by decide +kernel, kco_X0_get, kn_0, by decide +kernel⟩, by decide +kernel, by decide +kernel, _, rfl, rfl⟩
set_option maxRecDepth 20000 in
theorem kf_X4_54 : Cond.fieldLink RX4 54 (TX4 2).1 (TX4 2).2.1 (TX4 2).2.2.1 ∈ lw_tbl := by decide +kernel
set_option maxRecDepth 20000 in
theorem kf_X4_58 : Cond.fieldLink RX4 58 (TX4 3).1 (TX4 3).2.1 (TX4 3).2.2.1 ∈ lw_tbl := by decide +kernel
set_option maxRecDepth 20000 in
theorem kf_X4_61 : Cond.fieldLink RX4 61 (TX7 2).1 (TX7 2).2.1 (TX7 2).2.2.1 ∈ lw_tbl := by decide +kernel
set_option maxRecDepth 20000 in
theorem kco_X4_readItems : Cond.code yX4_readItems cX4_readItems 3 none ∈ lw_tbl := by decide +kernel
set_option maxRecDepth 20000 in
theorem kc_X4_62 : zSV RX4 62 yX4_readItems cX4_readItems 3 none 0 4 := ⟨⟨by decide +kernel, kco_X4_readItems, kn_4, by decide +kernel⟩, by decide +kernel, by decide +kernel, _, rfl, rfl⟩
set_option maxRecDepth 20000 in
theorem kco_X4_addRange : Cond.code yX4_addRange cX4_addRange 4 none ∈ lw_tbl := by decide +kernel
set_option maxRecDepth 20000 in
theorem kc_X4_65 : zSV RX4 65 yX4_addRange cX4_addRange 4 none 2 4 := ⟨⟨by decide +kernel, kco_X4_addRange, kn_4, by decide +kernel⟩, by decide +kernel, by decide +kernel, _, rfl, rfl⟩
set_option maxRecDepth 20000 in
theorem kco_X4_turnRound : Cond.code yX4_turnRound cX4_turnRound 1 none ∈ lw_tbl := by decide +kernel
set_option maxRecDepth 20000 in
theorem kc_X4_68 : zSV RX4 68 yX4_turnRound cX4_turnRound 1 none 0 4 := ⟨⟨by decide +kernel, kco_X4_turnRound, kn_4, by decide +kernel⟩, by decide +kernel, by decide +kernel, _, rfl, rfl⟩
set_option maxRecDepth 20000 in
theorem kco_X4_takeByte : Cond.code yX4_takeByte cX4_takeByte 2 (some .int) ∈ lw_tbl := by decide +kernel
set_option maxRecDepth 20000 in
theorem kc_X4_71 : zSV RX4 71 yX4_takeByte cX4_takeByte 2 (some .int) 0 4 := ⟨⟨by decide +kernel, kco_X4_takeByte, kn_4, by decide +kernel⟩, by decide +kernel, by decide +kernel, _, rfl, rfl⟩
set_option maxRecDepth 20000 in
theorem kco_X7_add : Cond.code yX7_add cX7_add 5 none ∈ lw_tbl := by decide +kernel
set_option maxRecDepth 20000 in
theorem kc_X4_75 : zSV RX4 75 yX7_add cX7_add 5 none 2 7 := ⟨⟨by decide +kernel, kco_X7_add, kn_7, by decide +kernel⟩, by decide +kernel, by decide +kernel, _, rfl, rfl⟩
set_option maxRecDepth 20000 in
theorem kco_X4_readItem : Cond.code yX4_readItem cX4_readItem 3 none ∈ lw_tbl := by decide +kernel
set_option maxRecDepth 20000 in
theorem kc_X4_79 : zSV RX4 79 yX4_readItem cX4_readItem 3 none 0 4 := ⟨⟨by decide +kernel, kco_X4_readItem, kn_4, by decide +kernel⟩, by decide +kernel, by decide +kernel, _, rfl, rfl⟩
set_option maxRecDepth 20000 in
theorem km_X4_82 : Cond.methodLink RX4 82 Lib.Math.max.name ∈ lw_tbl := by decide +kernel
set_option maxRecDepth 20000 in
theorem kk_X4_92 : Cond.constantLong RX4 92 (-4294966272) ∈ lw_tbl := by decide +kernel
set_option maxRecDepth 20000 in
theorem kk_X4_94 : Cond.constantLong RX4 94 (-1) ∈ lw_tbl := by decide +kernel
set_option maxRecDepth 20000 in
theorem kk_X4_96 : Cond.constantLong RX4 96 (9223372036854775807) ∈ lw_tbl := by decide +kernel
set_option maxRecDepth 20000 in
theorem km_X5_3 : Cond.methodLink RX5 3 Lib.objectInit ∈ lw_tbl := by decide +kernel
set_option maxRecDepth 20000 in
theorem kq_X5_9 : Cond.classLink RX5 9 RX7 ∈ lw_tbl := by decide +kernel
set_option maxRecDepth 20000 in
theorem kc_X5_11 : zSI RX5 11 yX7_init cX7_init 2 1 := ⟨⟨by decide +kernel, kco_X7_init, kn_7, by decide +kernel⟩, by decide +kernel, by decide +kernel⟩
set_option maxRecDepth 20000 in
theorem kf_X5_14 : Cond.fieldLink RX5 14 (TX5 0).1 (TX5 0).2.1 (TX5 0).2.2.1 ∈ lw_tbl := by decide +kernel
set_option maxRecDepth 20000 in
theorem kq_X5_20 : Cond.classLink RX5 20 RX0 ∈ lw_tbl := by decide +kernel
set_option maxRecDepth 20000 in
theorem kc_X5_22 : zSI RX5 22 yX0_init cX0_init 2 1 := ⟨⟨by decide +kernel, kco_X0_init, kn_0, by decide +kernel⟩, by decide +kernel, by decide +kernel⟩
set_option maxRecDepth 20000 in
theorem kf_X5_23 : Cond.fieldLink RX5 23 (TX5 1).1 (TX5 1).2.1 (TX5 1).2.2.1 ∈ lw_tbl := by decide +kernel
set_option maxRecDepth 20000 in
theorem kf_X5_27 : Cond.fieldLink RX5 27 (TX5 7).1 (TX5 7).2.1 (TX5 7).2.2.1 ∈ lw_tbl := by decide +kernel
set_option maxRecDepth 20000 in
theorem kf_X5_31 : Cond.fieldLink RX5 31 (TX5 8).1 (TX5 8).2.1 (TX5 8).2.2.1 ∈ lw_tbl := by decide +kernel
set_option maxRecDepth 20000 in
theorem kf_X5_34 : Cond.fieldLink RX5 34 (TX5 9).1 (TX5 9).2.1 (TX5 9).2.2.1 ∈ lw_tbl := by decide +kernel
set_option maxRecDepth 20000 in
theorem kf_X5_37 : Cond.fieldLink RX5 37 (TX5 10).1 (TX5 10).2.1 (TX5 10).2.2.1 ∈ lw_tbl := by decide +kernel
set_option maxRecDepth 20000 in
theorem kf_X5_41 : Cond.fieldLink RX5 41 (TX5 11).1 (TX5 11).2.1 (TX5 11).2.2.1 ∈ lw_tbl := by decide +kernel
set_option maxRecDepth 20000 in
theorem kf_X5_44 : Cond.fieldLink RX5 44 (TX7 0).1 (TX7 0).2.1 (TX7 0).2.2.1 ∈ lw_tbl := by decide +kernel
set_option maxRecDepth 20000 in
theorem kf_X5_48 : Cond.fieldLink RX5 48 (TX5 12).1 (TX5 12).2.1 (TX5 12).2.2.1 ∈ lw_tbl := by decide +kernel
set_option maxRecDepth 20000 in
theorem kf_X5_51 : Cond.fieldLink RX5 51 (TX5 13).1 (TX5 13).2.1 (TX5 13).2.2.1 ∈ lw_tbl := by decide +kernel
set_option maxRecDepth 20000 in
theorem kq_X5_54 : Cond.classLink RX5 54 RX8 ∈ lw_tbl := by decide +kernel
set_option maxRecDepth 20000 in
theorem kco_X8_init : Cond.code yX8_init cX8_init 1 none ∈ lw_tbl := by decide +kernel
set_option maxRecDepth 20000 in
theorem kc_X5_56 : zSI RX5 56 yX8_init cX8_init 1 0 := ⟨⟨by decide +kernel, kco_X8_init, kn_8, by decide +kernel⟩, by decide +kernel, by decide +kernel⟩
set_option maxRecDepth 20000 in
theorem kf_X5_57 : Cond.fieldLink RX5 57 (TX5 15).1 (TX5 15).2.1 (TX5 15).2.2.1 ∈ lw_tbl := by decide +kernel
set_option maxRecDepth 20000 in
theorem kco_X5_lay : Cond.code yX5_lay cX5_lay 6 none ∈ lw_tbl := by decide +kernel
set_option maxRecDepth 20000 in
theorem kc_X5_61 : zSV RX5 61 yX5_lay cX5_lay 6 none 5 5 := ⟨⟨by decide +kernel, kco_X5_lay, kn_5, by decide +kernel⟩, by decide +kernel, by decide +kernel, _, rfl, rfl⟩
set_option maxRecDepth 20000 in
theorem kf_X5_65 : Cond.fieldLink RX5 65 (TX5 14).1 (TX5 14).2.1 (TX5 14).2.2.1 ∈ lw_tbl := by decide +kernel
set_option maxRecDepth 20000 in
theorem kco_X5_measure : Cond.code yX5_measure cX5_measure 5 (some .int) ∈ lw_tbl := by decide +kernel
set_option maxRecDepth 20000 in
theorem kc_X5_69 : zSV RX5 69 yX5_measure cX5_measure 5 (some .int) 1 5 := ⟨⟨by decide +kernel, kco_X5_measure, kn_5, by decide +kernel⟩, by decide +kernel, by decide +kernel, _, rfl, rfl⟩
set_option maxRecDepth 20000 in
theorem kco_X5_walkBack : Cond.code yX5_walkBack cX5_walkBack 7 none ∈ lw_tbl := by decide +kernel
set_option maxRecDepth 20000 in
theorem kc_X5_73 : zSV RX5 73 yX5_walkBack cX5_walkBack 7 none 1 5 := ⟨⟨by decide +kernel, kco_X5_walkBack, kn_5, by decide +kernel⟩, by decide +kernel, by decide +kernel, _, rfl, rfl⟩
set_option maxRecDepth 20000 in
theorem kf_X5_77 : Cond.fieldLink RX5 77 (TX5 2).1 (TX5 2).2.1 (TX5 2).2.2.1 ∈ lw_tbl := by decide +kernel
set_option maxRecDepth 20000 in
theorem kc_X5_80 : zSV RX5 80 yX0_isPart cX0_isPart 3 (some .boolean) 2 0 := ⟨⟨by decide +kernel, kco_X0_isPart, kn_0, by decide +kernel⟩, by decide +kernel, by decide +kernel, _, rfl, rfl⟩
set_option maxRecDepth 20000 in
theorem kf_X5_84 : Cond.fieldLink RX5 84 (TX5 3).1 (TX5 3).2.1 (TX5 3).2.2.1 ∈ lw_tbl := by decide +kernel
set_option maxRecDepth 20000 in
theorem kf_X5_87 : Cond.fieldLink RX5 87 (TX5 4).1 (TX5 4).2.1 (TX5 4).2.2.1 ∈ lw_tbl := by decide +kernel
set_option maxRecDepth 20000 in
theorem kf_X5_90 : Cond.fieldLink RX5 90 (TX7 2).1 (TX7 2).2.1 (TX7 2).2.2.1 ∈ lw_tbl := by decide +kernel
set_option maxRecDepth 20000 in
theorem km_X5_93 : Cond.methodLink RX5 93 Lib.Math.abs.name ∈ lw_tbl := by decide +kernel
set_option maxRecDepth 20000 in
theorem km_X5_98 : Cond.methodLink RX5 98 Lib.Math.min.name ∈ lw_tbl := by decide +kernel
set_option maxRecDepth 20000 in
theorem kf_X5_102 : Cond.fieldLink RX5 102 (TX5 5).1 (TX5 5).2.1 (TX5 5).2.2.1 ∈ lw_tbl := by decide +kernel
set_option maxRecDepth 20000 in
theorem km_X5_105 : Cond.methodLink RX5 105 Lib.Math.max.name ∈ lw_tbl := by decide +kernel
set_option maxRecDepth 20000 in
theorem kf_X5_108 : Cond.fieldLink RX5 108 (TX5 6).1 (TX5 6).2.1 (TX5 6).2.2.1 ∈ lw_tbl := by decide +kernel
set_option maxRecDepth 20000 in
theorem kco_X8_widen : Cond.code yX8_widen cX8_widen 3 none ∈ lw_tbl := by decide +kernel
set_option maxRecDepth 20000 in
theorem kc_X5_111 : zSV RX5 111 yX8_widen cX8_widen 3 none 2 8 := ⟨⟨by decide +kernel, kco_X8_widen, kn_8, by decide +kernel⟩, by decide +kernel, by decide +kernel, _, rfl, rfl⟩
set_option maxRecDepth 20000 in
theorem kco_X5_fillFirstColumn : Cond.code yX5_fillFirstColumn cX5_fillFirstColumn 3 none ∈ lw_tbl := by decide +kernel
set_option maxRecDepth 20000 in
theorem kc_X5_115 : zSV RX5 115 yX5_fillFirstColumn cX5_fillFirstColumn 3 none 0 5 := ⟨⟨by decide +kernel, kco_X5_fillFirstColumn, kn_5, by decide +kernel⟩, by decide +kernel, by decide +kernel, _, rfl, rfl⟩
set_option maxRecDepth 20000 in
theorem kco_X5_fillColumn : Cond.code yX5_fillColumn cX5_fillColumn 6 (some .int) ∈ lw_tbl := by decide +kernel
set_option maxRecDepth 20000 in
theorem kc_X5_118 : zSV RX5 118 yX5_fillColumn cX5_fillColumn 6 (some .int) 1 5 := ⟨⟨by decide +kernel, kco_X5_fillColumn, kn_5, by decide +kernel⟩, by decide +kernel, by decide +kernel, _, rfl, rfl⟩
set_option maxRecDepth 20000 in
theorem kco_X5_closeAbove : Cond.code yX5_closeAbove cX5_closeAbove 2 none ∈ lw_tbl := by decide +kernel
set_option maxRecDepth 20000 in
theorem kc_X5_121 : zSV RX5 121 yX5_closeAbove cX5_closeAbove 2 none 1 5 := ⟨⟨by decide +kernel, kco_X5_closeAbove, kn_5, by decide +kernel⟩, by decide +kernel, by decide +kernel, _, rfl, rfl⟩
set_option maxRecDepth 20000 in
theorem kc_X5_124 : zSV RX5 124 yX0_get cX0_get 2 (some .int) 1 0 := ⟨⟨by decide +kernel, kco_X0_get, kn_0, by decide +kernel⟩, by decide +kernel, by decide +kernel, _, rfl, rfl⟩
set_option maxRecDepth 20000 in
theorem kco_X5_turnColumns : Cond.code yX5_turnColumns cX5_turnColumns 3 none ∈ lw_tbl := by decide +kernel
set_option maxRecDepth 20000 in
theorem kc_X5_127 : zSV RX5 127 yX5_turnColumns cX5_turnColumns 3 none 1 5 := ⟨⟨by decide +kernel, kco_X5_turnColumns, kn_5, by decide +kernel⟩, by decide +kernel, by decide +kernel, _, rfl, rfl⟩
set_option maxRecDepth 20000 in
theorem kk_X5_130 : Cond.constant RX5 130 (1048576) ∈ lw_tbl := by decide +kernel
set_option maxRecDepth 20000 in
theorem kco_X5_best : Cond.code yX5_best cX5_best 6 (some .int) ∈ lw_tbl := by decide +kernel
set_option maxRecDepth 20000 in
theorem kc_X5_131 : zSV RX5 131 yX5_best cX5_best 6 (some .int) 2 5 := ⟨⟨by decide +kernel, kco_X5_best, kn_5, by decide +kernel⟩, by decide +kernel, by decide +kernel, _, rfl, rfl⟩
set_option maxRecDepth 20000 in
theorem kco_X7_half : Cond.code yX7_half cX7_half 2 (some (.array .long)) ∈ lw_tbl := by decide +kernel
set_option maxRecDepth 20000 in
theorem kc_X5_134 : zSV RX5 134 yX7_half cX7_half 2 (some (.array .long)) 1 7 := ⟨⟨by decide +kernel, kco_X7_half, kn_7, by decide +kernel⟩, by decide +kernel, by decide +kernel, _, rfl, rfl⟩
set_option maxRecDepth 20000 in
theorem kco_X5_isSwap : Cond.code yX5_isSwap cX5_isSwap 2 (some .boolean) ∈ lw_tbl := by decide +kernel
set_option maxRecDepth 20000 in
theorem kc_X5_138 : zSV RX5 138 yX5_isSwap cX5_isSwap 2 (some .boolean) 1 5 := ⟨⟨by decide +kernel, kco_X5_isSwap, kn_5, by decide +kernel⟩, by decide +kernel, by decide +kernel, _, rfl, rfl⟩
set_option maxRecDepth 20000 in
theorem kco_X8_put : Cond.code yX8_put cX8_put 6 none ∈ lw_tbl := by decide +kernel
set_option maxRecDepth 20000 in
theorem kc_X5_142 : zSV RX5 142 yX8_put cX8_put 6 none 3 8 := ⟨⟨by decide +kernel, kco_X8_put, kn_8, by decide +kernel⟩, by decide +kernel, by decide +kernel, _, rfl, rfl⟩
set_option maxRecDepth 20000 in
theorem kco_X9_clear : Cond.code yX9_clear cX9_clear 1 none ∈ lw_tbl := by decide +kernel
set_option maxRecDepth 20000 in
theorem kc_X5_146 : zSV RX5 146 yX9_clear cX9_clear 1 none 0 9 := ⟨⟨by decide +kernel, kco_X9_clear, kn_9, by decide +kernel⟩, by decide +kernel, by decide +kernel, _, rfl, rfl⟩
set_option maxRecDepth 20000 in
theorem kco_X8_get : Cond.code yX8_get cX8_get 4 (some .int) ∈ lw_tbl := by decide +kernel
set_option maxRecDepth 20000 in
theorem kc_X5_151 : zSV RX5 151 yX8_get cX8_get 4 (some .int) 2 8 := ⟨⟨by decide +kernel, kco_X8_get, kn_8, by decide +kernel⟩, by decide +kernel, by decide +kernel, _, rfl, rfl⟩
set_option maxRecDepth 20000 in
theorem kco_X9_addBefore : Cond.code yX9_addBefore cX9_addBefore 2 none ∈ lw_tbl := by decide +kernel
set_option maxRecDepth 20000 in
theorem kc_X5_153 : zSV RX5 153 yX9_addBefore cX9_addBefore 2 none 1 9 := ⟨⟨by decide +kernel, kco_X9_addBefore, kn_9, by decide +kernel⟩, by decide +kernel, by decide +kernel, _, rfl, rfl⟩
set_option maxRecDepth 20000 in
theorem km_X6_3 : Cond.methodLink RX6 3 Lib.objectInit ∈ lw_tbl := by decide +kernel
set_option maxRecDepth 20000 in
theorem kq_X6_9 : Cond.classLink RX6 9 RX7 ∈ lw_tbl := by decide +kernel
set_option maxRecDepth 20000 in
theorem kc_X6_11 : zSI RX6 11 yX7_init cX7_init 2 1 := ⟨⟨by decide +kernel, kco_X7_init, kn_7, by decide +kernel⟩, by decide +kernel, by decide +kernel⟩
set_option maxRecDepth 20000 in
theorem kf_X6_14 : Cond.fieldLink RX6 14 (TX6 0).1 (TX6 0).2.1 (TX6 0).2.2.1 ∈ lw_tbl := by decide +kernel
set_option maxRecDepth 20000 in
theorem kf_X6_20 : Cond.fieldLink RX6 20 (TX6 4).1 (TX6 4).2.1 (TX6 4).2.2.1 ∈ lw_tbl := by decide +kernel
set_option maxRecDepth 20000 in
theorem kf_X6_24 : Cond.fieldLink RX6 24 (TX6 5).1 (TX6 5).2.1 (TX6 5).2.2.1 ∈ lw_tbl := by decide +kernel
set_option maxRecDepth 20000 in
theorem kf_X6_27 : Cond.fieldLink RX6 27 (TX6 6).1 (TX6 6).2.1 (TX6 6).2.2.1 ∈ lw_tbl := by decide +kernel
set_option maxRecDepth 20000 in
theorem kf_X6_30 : Cond.fieldLink RX6 30 (TX6 10).1 (TX6 10).2.1 (TX6 10).2.2.1 ∈ lw_tbl := by decide +kernel
set_option maxRecDepth 20000 in
theorem kf_X6_34 : Cond.fieldLink RX6 34 (TX7 2).1 (TX7 2).2.1 (TX7 2).2.2.1 ∈ lw_tbl := by decide +kernel
set_option maxRecDepth 20000 in
theorem km_X6_37 : Cond.methodLink RX6 37 Lib.Math.min.name ∈ lw_tbl := by decide +kernel
set_option maxRecDepth 20000 in
theorem kf_X6_43 : Cond.fieldLink RX6 43 (TX6 1).1 (TX6 1).2.1 (TX6 1).2.2.1 ∈ lw_tbl := by decide +kernel
set_option maxRecDepth 20000 in
theorem kf_X6_46 : Cond.fieldLink RX6 46 (TX6 2).1 (TX6 2).2.1 (TX6 2).2.2.1 ∈ lw_tbl := by decide +kernel
set_option maxRecDepth 20000 in
theorem kf_X6_49 : Cond.fieldLink RX6 49 (TX6 3).1 (TX6 3).2.1 (TX6 3).2.2.1 ∈ lw_tbl := by decide +kernel
set_option maxRecDepth 20000 in
theorem kf_X6_53 : Cond.fieldLink RX6 53 (TX6 8).1 (TX6 8).2.1 (TX6 8).2.2.1 ∈ lw_tbl := by decide +kernel
set_option maxRecDepth 20000 in
theorem kf_X6_56 : Cond.fieldLink RX6 56 (TX6 9).1 (TX6 9).2.1 (TX6 9).2.2.1 ∈ lw_tbl := by decide +kernel
set_option maxRecDepth 20000 in
theorem km_X6_59 : Cond.methodLink RX6 59 Lib.Math.max.name ∈ lw_tbl := by decide +kernel
set_option maxRecDepth 20000 in
theorem kf_X6_62 : Cond.fieldLink RX6 62 (TX6 7).1 (TX6 7).2.1 (TX6 7).2.2.1 ∈ lw_tbl := by decide +kernel
set_option maxRecDepth 20000 in
theorem kco_X6_number : Cond.code yX6_number cX6_number 2 (some .int) ∈ lw_tbl := by decide +kernel
set_option maxRecDepth 20000 in
theorem kc_X6_65 : zSS RX6 65 yX6_number cX6_number 2 (some .int) 2 := ⟨⟨by decide +kernel, kco_X6_number, kn_6, by decide +kernel⟩, by decide +kernel⟩
set_option maxRecDepth 20000 in
theorem kco_X6_closeAbove : Cond.code yX6_closeAbove cX6_closeAbove 2 none ∈ lw_tbl := by decide +kernel
set_option maxRecDepth 20000 in
theorem kc_X6_68 : zSV RX6 68 yX6_closeAbove cX6_closeAbove 2 none 1 6 := ⟨⟨by decide +kernel, kco_X6_closeAbove, kn_6, by decide +kernel⟩, by decide +kernel, by decide +kernel, _, rfl, rfl⟩
set_option maxRecDepth 20000 in
theorem kco_X6_fillColumn : Cond.code yX6_fillColumn cX6_fillColumn 8 none ∈ lw_tbl := by decide +kernel
set_option maxRecDepth 20000 in
theorem kc_X6_71 : zSV RX6 71 yX6_fillColumn cX6_fillColumn 8 none 2 6 := ⟨⟨by decide +kernel, kco_X6_fillColumn, kn_6, by decide +kernel⟩, by decide +kernel, by decide +kernel, _, rfl, rfl⟩
set_option maxRecDepth 20000 in
theorem kco_X6_lowerTop : Cond.code yX6_lowerTop cX6_lowerTop 2 none ∈ lw_tbl := by decide +kernel
set_option maxRecDepth 20000 in
theorem kc_X6_75 : zSV RX6 75 yX6_lowerTop cX6_lowerTop 2 none 1 6 := ⟨⟨by decide +kernel, kco_X6_lowerTop, kn_6, by decide +kernel⟩, by decide +kernel, by decide +kernel, _, rfl, rfl⟩
set_option maxRecDepth 20000 in
theorem kc_X6_78 : zSV RX6 78 yX7_half cX7_half 2 (some (.array .long)) 1 7 := ⟨⟨by decide +kernel, kco_X7_half, kn_7, by decide +kernel⟩, by decide +kernel, by decide +kernel, _, rfl, rfl⟩
set_option maxRecDepth 20000 in
theorem kk_X6_82 : Cond.constant RX6 82 (268435456) ∈ lw_tbl := by decide +kernel
set_option maxRecDepth 20000 in
theorem km_X7_1 : Cond.methodLink RX7 1 Lib.objectInit ∈ lw_tbl := by decide +kernel
set_option maxRecDepth 20000 in
theorem km_X7_7 : Cond.methodLink RX7 7 Lib.Math.max.name ∈ lw_tbl := by decide +kernel
set_option maxRecDepth 20000 in
theorem kf_X7_13 : Cond.fieldLink RX7 13 (TX7 0).1 (TX7 0).2.1 (TX7 0).2.2.1 ∈ lw_tbl := by decide +kernel
set_option maxRecDepth 20000 in
theorem kf_X7_19 : Cond.fieldLink RX7 19 (TX7 1).1 (TX7 1).2.1 (TX7 1).2.2.1 ∈ lw_tbl := by decide +kernel
set_option maxRecDepth 20000 in
theorem kf_X7_22 : Cond.fieldLink RX7 22 (TX7 2).1 (TX7 2).2.1 (TX7 2).2.2.1 ∈ lw_tbl := by decide +kernel
set_option maxRecDepth 20000 in
theorem kc_X7_26 : zSV RX7 26 yX7_half cX7_half 2 (some (.array .long)) 1 7 := ⟨⟨by decide +kernel, kco_X7_half, kn_7, by decide +kernel⟩, by decide +kernel, by decide +kernel, _, rfl, rfl⟩
set_option maxRecDepth 20000 in
theorem kc_X7_30 : zSV RX7 30 yX7_clear cX7_clear 1 none 0 7 := ⟨⟨by decide +kernel, kco_X7_clear, kn_7, by decide +kernel⟩, by decide +kernel, by decide +kernel, _, rfl, rfl⟩
set_option maxRecDepth 20000 in
theorem kc_X7_33 : zSV RX7 33 yX7_add cX7_add 5 none 2 7 := ⟨⟨by decide +kernel, kco_X7_add, kn_7, by decide +kernel⟩, by decide +kernel, by decide +kernel, _, rfl, rfl⟩
set_option maxRecDepth 20000 in
theorem kc_X7_37 : zSV RX7 37 yX0_get cX0_get 2 (some .int) 1 0 := ⟨⟨by decide +kernel, kco_X0_get, kn_0, by decide +kernel⟩, by decide +kernel, by decide +kernel, _, rfl, rfl⟩
set_option maxRecDepth 20000 in
theorem km_X8_3 : Cond.methodLink RX8 3 Lib.objectInit ∈ lw_tbl := by decide +kernel
set_option maxRecDepth 20000 in
theorem kf_X8_11 : Cond.fieldLink RX8 11 (TX8 0).1 (TX8 0).2.1 (TX8 0).2.2.1 ∈ lw_tbl := by decide +kernel
set_option maxRecDepth 20000 in
theorem kf_X8_15 : Cond.fieldLink RX8 15 (TX8 1).1 (TX8 1).2.1 (TX8 1).2.2.1 ∈ lw_tbl := by decide +kernel
set_option maxRecDepth 20000 in
theorem kf_X8_19 : Cond.fieldLink RX8 19 (TX8 2).1 (TX8 2).2.1 (TX8 2).2.2.1 ∈ lw_tbl := by decide +kernel
set_option maxRecDepth 20000 in
theorem kco_X8_cellOf : Cond.code yX8_cellOf cX8_cellOf 3 (some .int) ∈ lw_tbl := by decide +kernel
set_option maxRecDepth 20000 in
theorem kc_X8_22 : zSV RX8 22 yX8_cellOf cX8_cellOf 3 (some .int) 2 8 := ⟨⟨by decide +kernel, kco_X8_cellOf, kn_8, by decide +kernel⟩, by decide +kernel, by decide +kernel, _, rfl, rfl⟩
set_option maxRecDepth 20000 in
theorem kk_X8_26 : Cond.constantLong RX8 26 (15) ∈ lw_tbl := by decide +kernel
set_option maxRecDepth 20000 in
theorem kk_X8_28 : Cond.constantLong RX8 28 (-1) ∈ lw_tbl := by decide +kernel
set_option maxRecDepth 20000 in
theorem km_X9_3 : Cond.methodLink RX9 3 Lib.objectInit ∈ lw_tbl := by decide +kernel
set_option maxRecDepth 20000 in
theorem kf_X9_9 : Cond.fieldLink RX9 9 (TX9 0).1 (TX9 0).2.1 (TX9 0).2.2.1 ∈ lw_tbl := by decide +kernel
set_option maxRecDepth 20000 in
theorem kf_X9_15 : Cond.fieldLink RX9 15 (TX9 1).1 (TX9 1).2.1 (TX9 1).2.2.1 ∈ lw_tbl := by decide +kernel
set_option maxRecDepth 20000 in
theorem km_X10_3 : Cond.methodLink RX10 3 Lib.objectInit ∈ lw_tbl := by decide +kernel
set_option maxRecDepth 20000 in
theorem kq_X10_9 : Cond.classLink RX10 9 RX0 ∈ lw_tbl := by decide +kernel
set_option maxRecDepth 20000 in
theorem kc_X10_11 : zSI RX10 11 yX0_init cX0_init 2 1 := ⟨⟨by decide +kernel, kco_X0_init, kn_0, by decide +kernel⟩, by decide +kernel, by decide +kernel⟩
set_option maxRecDepth 20000 in
theorem kf_X10_14 : Cond.fieldLink RX10 14 (TX10 0).1 (TX10 0).2.1 (TX10 0).2.2.1 ∈ lw_tbl := by decide +kernel
set_option maxRecDepth 20000 in
theorem kf_X10_18 : Cond.fieldLink RX10 18 (TX10 1).1 (TX10 1).2.1 (TX10 1).2.2.1 ∈ lw_tbl := by decide +kernel
set_option maxRecDepth 20000 in
theorem kf_X10_21 : Cond.fieldLink RX10 21 (TX10 2).1 (TX10 2).2.1 (TX10 2).2.2.1 ∈ lw_tbl := by decide +kernel
set_option maxRecDepth 20000 in
theorem kq_X10_24 : Cond.classLink RX10 24 RX1 ∈ lw_tbl := by decide +kernel
set_option maxRecDepth 20000 in
theorem kco_X1_init : Cond.code yX1_init cX1_init 2 none ∈ lw_tbl := by decide +kernel
set_option maxRecDepth 20000 in
theorem kc_X10_26 : zSI RX10 26 yX1_init cX1_init 2 0 := ⟨⟨by decide +kernel, kco_X1_init, kn_1, by decide +kernel⟩, by decide +kernel, by decide +kernel⟩
set_option maxRecDepth 20000 in
theorem kf_X10_27 : Cond.fieldLink RX10 27 (TX10 3).1 (TX10 3).2.1 (TX10 3).2.2.1 ∈ lw_tbl := by decide +kernel
set_option maxRecDepth 20000 in
theorem kq_X10_31 : Cond.classLink RX10 31 RX7 ∈ lw_tbl := by decide +kernel
set_option maxRecDepth 20000 in
theorem kf_X10_33 : Cond.fieldLink RX10 33 (TX10 4).1 (TX10 4).2.1 (TX10 4).2.2.1 ∈ lw_tbl := by decide +kernel
set_option maxRecDepth 20000 in
theorem kc_X10_37 : zSI RX10 37 yX7_init cX7_init 2 1 := ⟨⟨by decide +kernel, kco_X7_init, kn_7, by decide +kernel⟩, by decide +kernel, by decide +kernel⟩
set_option maxRecDepth 20000 in
theorem kf_X10_38 : Cond.fieldLink RX10 38 (TX10 5).1 (TX10 5).2.1 (TX10 5).2.2.1 ∈ lw_tbl := by decide +kernel
set_option maxRecDepth 20000 in
theorem kq_X10_42 : Cond.classLink RX10 42 RX4 ∈ lw_tbl := by decide +kernel
set_option maxRecDepth 20000 in
theorem kco_X4_init : Cond.code yX4_init cX4_init 1 none ∈ lw_tbl := by decide +kernel
set_option maxRecDepth 20000 in
theorem kc_X10_44 : zSI RX10 44 yX4_init cX4_init 1 0 := ⟨⟨by decide +kernel, kco_X4_init, kn_4, by decide +kernel⟩, by decide +kernel, by decide +kernel⟩
set_option maxRecDepth 20000 in
theorem kf_X10_45 : Cond.fieldLink RX10 45 (TX10 6).1 (TX10 6).2.1 (TX10 6).2.2.1 ∈ lw_tbl := by decide +kernel
set_option maxRecDepth 20000 in
theorem kq_X10_49 : Cond.classLink RX10 49 RX6 ∈ lw_tbl := by decide +kernel
set_option maxRecDepth 20000 in
theorem kco_X6_init : Cond.code yX6_init cX6_init 1 none ∈ lw_tbl := by decide +kernel
set_option maxRecDepth 20000 in
theorem kc_X10_51 : zSI RX10 51 yX6_init cX6_init 1 0 := ⟨⟨by decide +kernel, kco_X6_init, kn_6, by decide +kernel⟩, by decide +kernel, by decide +kernel⟩
set_option maxRecDepth 20000 in
theorem kf_X10_52 : Cond.fieldLink RX10 52 (TX10 7).1 (TX10 7).2.1 (TX10 7).2.2.1 ∈ lw_tbl := by decide +kernel
set_option maxRecDepth 20000 in
theorem kq_X10_56 : Cond.classLink RX10 56 RX5 ∈ lw_tbl := by decide +kernel
set_option maxRecDepth 20000 in
theorem kco_X5_init : Cond.code yX5_init cX5_init 1 none ∈ lw_tbl := by decide +kernel
set_option maxRecDepth 20000 in
theorem kc_X10_58 : zSI RX10 58 yX5_init cX5_init 1 0 := ⟨⟨by decide +kernel, kco_X5_init, kn_5, by decide +kernel⟩, by decide +kernel, by decide +kernel⟩
set_option maxRecDepth 20000 in
theorem kf_X10_59 : Cond.fieldLink RX10 59 (TX10 8).1 (TX10 8).2.1 (TX10 8).2.2.1 ∈ lw_tbl := by decide +kernel
set_option maxRecDepth 20000 in
theorem kq_X10_63 : Cond.classLink RX10 63 RX2 ∈ lw_tbl := by decide +kernel
set_option maxRecDepth 20000 in
theorem kco_X2_init : Cond.code yX2_init cX2_init 1 none ∈ lw_tbl := by decide +kernel
set_option maxRecDepth 20000 in
theorem kc_X10_65 : zSI RX10 65 yX2_init cX2_init 1 0 := ⟨⟨by decide +kernel, kco_X2_init, kn_2, by decide +kernel⟩, by decide +kernel, by decide +kernel⟩
set_option maxRecDepth 20000 in
theorem kf_X10_66 : Cond.fieldLink RX10 66 (TX10 9).1 (TX10 9).2.1 (TX10 9).2.2.1 ∈ lw_tbl := by decide +kernel
set_option maxRecDepth 20000 in
theorem kq_X10_70 : Cond.classLink RX10 70 RX3 ∈ lw_tbl := by decide +kernel
set_option maxRecDepth 20000 in
theorem kco_X3_init : Cond.code yX3_init cX3_init 1 none ∈ lw_tbl := by decide +kernel
set_option maxRecDepth 20000 in
theorem kc_X10_72 : zSI RX10 72 yX3_init cX3_init 1 0 := ⟨⟨by decide +kernel, kco_X3_init, kn_3, by decide +kernel⟩, by decide +kernel, by decide +kernel⟩
set_option maxRecDepth 20000 in
theorem kf_X10_73 : Cond.fieldLink RX10 73 (TX10 10).1 (TX10 10).2.1 (TX10 10).2.2.1 ∈ lw_tbl := by decide +kernel
set_option maxRecDepth 20000 in
theorem kco_X10_byteOfWord : Cond.code yX10_byteOfWord cX10_byteOfWord 3 (some .int) ∈ lw_tbl := by decide +kernel
set_option maxRecDepth 20000 in
theorem kc_X10_77 : zSS RX10 77 yX10_byteOfWord cX10_byteOfWord 3 (some .int) 2 := ⟨⟨by decide +kernel, kco_X10_byteOfWord, kn_10, by decide +kernel⟩, by decide +kernel⟩
set_option maxRecDepth 20000 in
theorem kco_X10_isByte : Cond.code yX10_isByte cX10_isByte 1 (some .boolean) ∈ lw_tbl := by decide +kernel
set_option maxRecDepth 20000 in
theorem kc_X10_81 : zSS RX10 81 yX10_isByte cX10_isByte 1 (some .boolean) 1 := ⟨⟨by decide +kernel, kco_X10_isByte, kn_10, by decide +kernel⟩, by decide +kernel⟩
set_option maxRecDepth 20000 in
theorem kf_X10_85 : Cond.fieldLink RX10 85 (TX0 1).1 (TX0 1).2.1 (TX0 1).2.2.1 ∈ lw_tbl := by decide +kernel
set_option maxRecDepth 20000 in
theorem kco_X0_add : Cond.code yX0_add cX0_add 2 none ∈ lw_tbl := by decide +kernel
set_option maxRecDepth 20000 in
theorem kc_X10_89 : zSV RX10 89 yX0_add cX0_add 2 none 1 0 := ⟨⟨by decide +kernel, kco_X0_add, kn_0, by decide +kernel⟩, by decide +kernel, by decide +kernel, _, rfl, rfl⟩
set_option maxRecDepth 20000 in
theorem kco_X4_read : Cond.code yX4_read cX4_read 3 none ∈ lw_tbl := by decide +kernel
set_option maxRecDepth 20000 in
theorem kc_X10_92 : zSV RX10 92 yX4_read cX4_read 3 none 1 4 := ⟨⟨by decide +kernel, kco_X4_read, kn_4, by decide +kernel⟩, by decide +kernel, by decide +kernel, _, rfl, rfl⟩
set_option maxRecDepth 20000 in
theorem kc_X10_96 : zSV RX10 96 yX0_clear cX0_clear 1 none 0 0 := ⟨⟨by decide +kernel, kco_X0_clear, kn_0, by decide +kernel⟩, by decide +kernel, by decide +kernel, _, rfl, rfl⟩
set_option maxRecDepth 20000 in
theorem kf_X10_99 : Cond.fieldLink RX10 99 (TX4 5).1 (TX4 5).2.1 (TX4 5).2.2.1 ∈ lw_tbl := by decide +kernel
set_option maxRecDepth 20000 in
theorem kf_X10_102 : Cond.fieldLink RX10 102 (TX4 4).1 (TX4 4).2.1 (TX4 4).2.2.1 ∈ lw_tbl := by decide +kernel
set_option maxRecDepth 20000 in
theorem kc_X10_105 : zSV RX10 105 yX7_copyFrom cX7_copyFrom 3 none 1 7 := ⟨⟨by decide +kernel, kco_X7_copyFrom, kn_7, by decide +kernel⟩, by decide +kernel, by decide +kernel, _, rfl, rfl⟩
set_option maxRecDepth 20000 in
theorem kf_X10_109 : Cond.fieldLink RX10 109 (TX7 2).1 (TX7 2).2.1 (TX7 2).2.2.1 ∈ lw_tbl := by decide +kernel
set_option maxRecDepth 20000 in
theorem kf_X10_110 : Cond.fieldLink RX10 110 (TX4 6).1 (TX4 6).2.1 (TX4 6).2.2.1 ∈ lw_tbl := by decide +kernel
set_option maxRecDepth 20000 in
theorem kco_X10_isPattern : Cond.code yX10_isPattern cX10_isPattern 2 (some .boolean) ∈ lw_tbl := by decide +kernel
set_option maxRecDepth 20000 in
theorem kc_X10_113 : zSV RX10 113 yX10_isPattern cX10_isPattern 2 (some .boolean) 1 10 := ⟨⟨by decide +kernel, kco_X10_isPattern, kn_10, by decide +kernel⟩, by decide +kernel, by decide +kernel, _, rfl, rfl⟩
set_option maxRecDepth 20000 in
theorem kco_X7_holds : Cond.code yX7_holds cX7_holds 3 (some .boolean) ∈ lw_tbl := by decide +kernel
set_option maxRecDepth 20000 in
theorem kc_X10_116 : zSV RX10 116 yX7_holds cX7_holds 3 (some .boolean) 2 7 := ⟨⟨by decide +kernel, kco_X7_holds, kn_7, by decide +kernel⟩, by decide +kernel, by decide +kernel, _, rfl, rfl⟩
set_option maxRecDepth 20000 in
theorem kco_X1_keep : Cond.code yX1_keep cX1_keep 2 none ∈ lw_tbl := by decide +kernel
set_option maxRecDepth 20000 in
theorem kc_X10_120 : zSV RX10 120 yX1_keep cX1_keep 2 none 1 1 := ⟨⟨by decide +kernel, kco_X1_keep, kn_1, by decide +kernel⟩, by decide +kernel, by decide +kernel, _, rfl, rfl⟩
set_option maxRecDepth 20000 in
theorem kco_X0_putIn : Cond.code yX0_putIn cX0_putIn 3 none ∈ lw_tbl := by decide +kernel
set_option maxRecDepth 20000 in
theorem kc_X10_123 : zSV RX10 123 yX0_putIn cX0_putIn 3 none 2 0 := ⟨⟨by decide +kernel, kco_X0_putIn, kn_0, by decide +kernel⟩, by decide +kernel, by decide +kernel, _, rfl, rfl⟩
set_option maxRecDepth 20000 in
theorem kc_X10_127 : zSV RX10 127 yX0_isPart cX0_isPart 3 (some .boolean) 2 0 := ⟨⟨by decide +kernel, kco_X0_isPart, kn_0, by decide +kernel⟩, by decide +kernel, by decide +kernel, _, rfl, rfl⟩
set_option maxRecDepth 20000 in
theorem kco_X0_takeOut : Cond.code yX0_takeOut cX0_takeOut 3 none ∈ lw_tbl := by decide +kernel
set_option maxRecDepth 20000 in
theorem kc_X10_130 : zSV RX10 130 yX0_takeOut cX0_takeOut 3 none 2 0 := ⟨⟨by decide +kernel, kco_X0_takeOut, kn_0, by decide +kernel⟩, by decide +kernel, by decide +kernel, _, rfl, rfl⟩
set_option maxRecDepth 20000 in
theorem kco_X1_takeBack : Cond.code yX1_takeBack cX1_takeBack 2 (some .boolean) ∈ lw_tbl := by decide +kernel
set_option maxRecDepth 20000 in
theorem kc_X10_134 : zSV RX10 134 yX1_takeBack cX1_takeBack 2 (some .boolean) 1 1 := ⟨⟨by decide +kernel, kco_X1_takeBack, kn_1, by decide +kernel⟩, by decide +kernel, by decide +kernel, _, rfl, rfl⟩
set_option maxRecDepth 20000 in
theorem kc_X10_138 : zSV RX10 138 yX0_get cX0_get 2 (some .int) 1 0 := ⟨⟨by decide +kernel, kco_X0_get, kn_0, by decide +kernel⟩, by decide +kernel, by decide +kernel, _, rfl, rfl⟩
set_option maxRecDepth 20000 in
theorem kco_X10_isEdits : Cond.code yX10_isEdits cX10_isEdits 1 (some .boolean) ∈ lw_tbl := by decide +kernel
set_option maxRecDepth 20000 in
theorem kc_X10_142 : zSS RX10 142 yX10_isEdits cX10_isEdits 1 (some .boolean) 1 := ⟨⟨by decide +kernel, kco_X10_isEdits, kn_10, by decide +kernel⟩, by decide +kernel⟩
set_option maxRecDepth 20000 in
theorem kco_X2_reset : Cond.code yX2_reset cX2_reset 4 none ∈ lw_tbl := by decide +kernel
set_option maxRecDepth 20000 in
theorem kc_X10_145 : zSV RX10 145 yX2_reset cX2_reset 4 none 3 2 := ⟨⟨by decide +kernel, kco_X2_reset, kn_2, by decide +kernel⟩, by decide +kernel, by decide +kernel, _, rfl, rfl⟩
set_option maxRecDepth 20000 in
theorem kco_X6_aim : Cond.code yX6_aim cX6_aim 4 none ∈ lw_tbl := by decide +kernel
set_option maxRecDepth 20000 in
theorem kc_X10_149 : zSV RX10 149 yX6_aim cX6_aim 4 none 3 6 := ⟨⟨by decide +kernel, kco_X6_aim, kn_6, by decide +kernel⟩, by decide +kernel, by decide +kernel, _, rfl, rfl⟩
set_option maxRecDepth 20000 in
theorem kco_X6_restart : Cond.code yX6_restart cX6_restart 3 none ∈ lw_tbl := by decide +kernel
set_option maxRecDepth 20000 in
theorem kc_X10_153 : zSV RX10 153 yX6_restart cX6_restart 3 none 1 6 := ⟨⟨by decide +kernel, kco_X6_restart, kn_6, by decide +kernel⟩, by decide +kernel, by decide +kernel, _, rfl, rfl⟩
set_option maxRecDepth 20000 in
theorem kco_X6_feed : Cond.code yX6_feed cX6_feed 4 none ∈ lw_tbl := by decide +kernel
set_option maxRecDepth 20000 in
theorem kc_X10_156 : zSV RX10 156 yX6_feed cX6_feed 4 none 1 6 := ⟨⟨by decide +kernel, kco_X6_feed, kn_6, by decide +kernel⟩, by decide +kernel, by decide +kernel, _, rfl, rfl⟩
set_option maxRecDepth 20000 in
theorem kco_X6_isHit : Cond.code yX6_isHit cX6_isHit 1 (some .boolean) ∈ lw_tbl := by decide +kernel
set_option maxRecDepth 20000 in
theorem kc_X10_159 : zSV RX10 159 yX6_isHit cX6_isHit 1 (some .boolean) 0 6 := ⟨⟨by decide +kernel, kco_X6_isHit, kn_6, by decide +kernel⟩, by decide +kernel, by decide +kernel, _, rfl, rfl⟩
set_option maxRecDepth 20000 in
theorem kco_X6_edits : Cond.code yX6_edits cX6_edits 1 (some .int) ∈ lw_tbl := by decide +kernel
set_option maxRecDepth 20000 in
theorem kc_X10_163 : zSV RX10 163 yX6_edits cX6_edits 1 (some .int) 0 6 := ⟨⟨by decide +kernel, kco_X6_edits, kn_6, by decide +kernel⟩, by decide +kernel, by decide +kernel, _, rfl, rfl⟩
set_option maxRecDepth 20000 in
theorem kco_X6_beginning : Cond.code yX6_beginning cX6_beginning 1 (some .int) ∈ lw_tbl := by decide +kernel
set_option maxRecDepth 20000 in
theorem kc_X10_167 : zSV RX10 167 yX6_beginning cX6_beginning 1 (some .int) 0 6 := ⟨⟨by decide +kernel, kco_X6_beginning, kn_6, by decide +kernel⟩, by decide +kernel, by decide +kernel, _, rfl, rfl⟩
set_option maxRecDepth 20000 in
theorem kco_X2_add : Cond.code yX2_add cX2_add 4 none ∈ lw_tbl := by decide +kernel
set_option maxRecDepth 20000 in
theorem kc_X10_170 : zSV RX10 170 yX2_add cX2_add 4 none 3 2 := ⟨⟨by decide +kernel, kco_X2_add, kn_2, by decide +kernel⟩, by decide +kernel, by decide +kernel, _, rfl, rfl⟩
set_option maxRecDepth 20000 in
theorem kf_X10_173 : Cond.fieldLink RX10 173 (TX2 8).1 (TX2 8).2.1 (TX2 8).2.2.1 ∈ lw_tbl := by decide +kernel
set_option maxRecDepth 20000 in
theorem kf_X10_176 : Cond.fieldLink RX10 176 (TX2 5).1 (TX2 5).2.1 (TX2 5).2.2.1 ∈ lw_tbl := by decide +kernel
set_option maxRecDepth 20000 in
theorem kf_X10_180 : Cond.fieldLink RX10 180 (TX2 6).1 (TX2 6).2.1 (TX2 6).2.2.1 ∈ lw_tbl := by decide +kernel
set_option maxRecDepth 20000 in
theorem kf_X10_182 : Cond.fieldLink RX10 182 (TX2 7).1 (TX2 7).2.1 (TX2 7).2.2.1 ∈ lw_tbl := by decide +kernel
set_option maxRecDepth 20000 in
theorem kco_X2_trace : Cond.code yX2_trace cX2_trace 3 none ∈ lw_tbl := by decide +kernel
set_option maxRecDepth 20000 in
theorem kc_X10_185 : zSV RX10 185 yX2_trace cX2_trace 3 none 2 2 := ⟨⟨by decide +kernel, kco_X2_trace, kn_2, by decide +kernel⟩, by decide +kernel, by decide +kernel, _, rfl, rfl⟩
set_option maxRecDepth 20000 in
theorem kf_X10_189 : Cond.fieldLink RX10 189 (TX2 4).1 (TX2 4).2.1 (TX2 4).2.2.1 ∈ lw_tbl := by decide +kernel
set_option maxRecDepth 20000 in
theorem kf_X10_193 : Cond.fieldLink RX10 193 (TX9 1).1 (TX9 1).2.1 (TX9 1).2.2.1 ∈ lw_tbl := by decide +kernel
set_option maxRecDepth 20000 in
theorem kco_X9_get : Cond.code yX9_get cX9_get 2 (some .int) ∈ lw_tbl := by decide +kernel
set_option maxRecDepth 20000 in
theorem kc_X10_196 : zSV RX10 196 yX9_get cX9_get 2 (some .int) 1 9 := ⟨⟨by decide +kernel, kco_X9_get, kn_9, by decide +kernel⟩, by decide +kernel, by decide +kernel, _, rfl, rfl⟩
set_option maxRecDepth 20000 in
theorem kco_X6_tighten : Cond.code yX6_tighten cX6_tighten 2 none ∈ lw_tbl := by decide +kernel
set_option maxRecDepth 20000 in
theorem kc_X10_197 : zSV RX10 197 yX6_tighten cX6_tighten 2 none 1 6 := ⟨⟨by decide +kernel, kco_X6_tighten, kn_6, by decide +kernel⟩, by decide +kernel, by decide +kernel, _, rfl, rfl⟩
set_option maxRecDepth 20000 in
theorem kco_X3_clear : Cond.code yX3_clear cX3_clear 1 none ∈ lw_tbl := by decide +kernel
set_option maxRecDepth 20000 in
theorem kc_X10_200 : zSV RX10 200 yX3_clear cX3_clear 1 none 0 3 := ⟨⟨by decide +kernel, kco_X3_clear, kn_3, by decide +kernel⟩, by decide +kernel, by decide +kernel, _, rfl, rfl⟩
set_option maxRecDepth 20000 in
theorem kco_X3_add : Cond.code yX3_add cX3_add 2 none ∈ lw_tbl := by decide +kernel
set_option maxRecDepth 20000 in
theorem kc_X10_201 : zSV RX10 201 yX3_add cX3_add 2 none 1 3 := ⟨⟨by decide +kernel, kco_X3_add, kn_3, by decide +kernel⟩, by decide +kernel, by decide +kernel, _, rfl, rfl⟩
set_option maxRecDepth 20000 in
theorem kf_X10_202 : Cond.fieldLink RX10 202 (TX3 1).1 (TX3 1).2.1 (TX3 1).2.2.1 ∈ lw_tbl := by decide +kernel
set_option maxRecDepth 20000 in
theorem kco_X3_get : Cond.code yX3_get cX3_get 2 (some .int) ∈ lw_tbl := by decide +kernel
set_option maxRecDepth 20000 in
theorem kc_X10_203 : zSV RX10 203 yX3_get cX3_get 2 (some .int) 1 3 := ⟨⟨by decide +kernel, kco_X3_get, kn_3, by decide +kernel⟩, by decide +kernel, by decide +kernel, _, rfl, rfl⟩
set_option maxRecDepth 20000 in
theorem kco_X10_draftReplaced : Cond.code yX10_draftReplaced cX10_draftReplaced 4 (some .int) ∈ lw_tbl := by decide +kernel
set_option maxRecDepth 20000 in
theorem kc_X10_204 : zSV RX10 204 yX10_draftReplaced cX10_draftReplaced 4 (some .int) 0 10 := ⟨⟨by decide +kernel, kco_X10_draftReplaced, kn_10, by decide +kernel⟩, by decide +kernel, by decide +kernel, _, rfl, rfl⟩
set_option maxRecDepth 20000 in
theorem kc_X10_207 : zSV RX10 207 yX0_copyFrom cX0_copyFrom 2 none 1 0 := ⟨⟨by decide +kernel, kco_X0_copyFrom, kn_0, by decide +kernel⟩, by decide +kernel, by decide +kernel, _, rfl, rfl⟩
set_option maxRecDepth 20000 in
theorem kco_X10_isLimit : Cond.code yX10_isLimit cX10_isLimit 1 (some .boolean) ∈ lw_tbl := by decide +kernel
set_option maxRecDepth 20000 in
theorem kc_X10_209 : zSS RX10 209 yX10_isLimit cX10_isLimit 1 (some .boolean) 1 := ⟨⟨by decide +kernel, kco_X10_isLimit, kn_10, by decide +kernel⟩, by decide +kernel⟩
set_option maxRecDepth 20000 in
theorem kco_X5_distance : Cond.code yX5_distance cX5_distance 9 (some .int) ∈ lw_tbl := by decide +kernel
set_option maxRecDepth 20000 in
theorem kc_X10_212 : zSV RX10 212 yX5_distance cX5_distance 9 (some .int) 6 5 := ⟨⟨by decide +kernel, kco_X5_distance, kn_5, by decide +kernel⟩, by decide +kernel, by decide +kernel, _, rfl, rfl⟩
set_option maxRecDepth 20000 in
theorem kco_X7_copyBytes : Cond.code yX7_copyBytes cX7_copyBytes 6 none ∈ lw_tbl := by decide +kernel
set_option maxRecDepth 20000 in
theorem kc_X10_216 : zSV RX10 216 yX7_copyBytes cX7_copyBytes 6 none 3 7 := ⟨⟨by decide +kernel, kco_X7_copyBytes, kn_7, by decide +kernel⟩, by decide +kernel, by decide +kernel, _, rfl, rfl⟩
set_option maxRecDepth 20000 in
theorem kc_X10_220 : zSV RX10 220 yX0_addPart cX0_addPart 4 (some .boolean) 3 0 := ⟨⟨by decide +kernel, kco_X0_addPart, kn_0, by decide +kernel⟩, by decide +kernel, by decide +kernel, _, rfl, rfl⟩
set_option maxRecDepth 20000 in
theorem km_X11_1 : Cond.methodLink RX11 1 Lib.objectInit ∈ lw_tbl := by decide +kernel
set_option maxRecDepth 20000 in
theorem kf_X11_7 : Cond.fieldLink RX11 7 (TX11 0).1 (TX11 0).2.1 (TX11 0).2.2.1 ∈ lw_tbl := by decide +kernel
set_option maxRecDepth 20000 in
theorem kf_X11_13 : Cond.fieldLink RX11 13 (TX11 2).1 (TX11 2).2.1 (TX11 2).2.2.1 ∈ lw_tbl := by decide +kernel
set_option maxRecDepth 20000 in
theorem kf_X11_16 : Cond.fieldLink RX11 16 (TX11 4).1 (TX11 4).2.1 (TX11 4).2.2.1 ∈ lw_tbl := by decide +kernel
set_option maxRecDepth 20000 in
theorem kf_X11_19 : Cond.fieldLink RX11 19 (TX11 5).1 (TX11 5).2.1 (TX11 5).2.2.1 ∈ lw_tbl := by decide +kernel
set_option maxRecDepth 20000 in
theorem kf_X11_22 : Cond.fieldLink RX11 22 (TX11 7).1 (TX11 7).2.1 (TX11 7).2.2.1 ∈ lw_tbl := by decide +kernel
set_option maxRecDepth 20000 in
theorem kf_X11_26 : Cond.fieldLink RX11 26 (TX11 8).1 (TX11 8).2.1 (TX11 8).2.2.1 ∈ lw_tbl := by decide +kernel
set_option maxRecDepth 20000 in
theorem kf_X11_29 : Cond.fieldLink RX11 29 (TX11 9).1 (TX11 9).2.1 (TX11 9).2.2.1 ∈ lw_tbl := by decide +kernel
set_option maxRecDepth 20000 in
theorem kf_X11_32 : Cond.fieldLink RX11 32 (TX11 10).1 (TX11 10).2.1 (TX11 10).2.2.1 ∈ lw_tbl := by decide +kernel
set_option maxRecDepth 20000 in
theorem kf_X11_36 : Cond.fieldLink RX11 36 (TX11 14).1 (TX11 14).2.1 (TX11 14).2.2.1 ∈ lw_tbl := by decide +kernel
set_option maxRecDepth 20000 in
theorem kf_X11_39 : Cond.fieldLink RX11 39 (TX11 15).1 (TX11 15).2.1 (TX11 15).2.2.1 ∈ lw_tbl := by decide +kernel
set_option maxRecDepth 20000 in
theorem kf_X11_42 : Cond.fieldLink RX11 42 (TX11 19).1 (TX11 19).2.1 (TX11 19).2.2.1 ∈ lw_tbl := by decide +kernel
set_option maxRecDepth 20000 in
theorem kf_X11_45 : Cond.fieldLink RX11 45 (TX11 20).1 (TX11 20).2.1 (TX11 20).2.2.1 ∈ lw_tbl := by decide +kernel
set_option maxRecDepth 20000 in
theorem kf_X11_48 : Cond.fieldLink RX11 48 (TX11 22).1 (TX11 22).2.1 (TX11 22).2.2.1 ∈ lw_tbl := by decide +kernel
set_option maxRecDepth 20000 in
theorem kf_X11_51 : Cond.fieldLink RX11 51 (TX11 25).1 (TX11 25).2.1 (TX11 25).2.2.1 ∈ lw_tbl := by decide +kernel
set_option maxRecDepth 20000 in
theorem kf_X11_54 : Cond.fieldLink RX11 54 (TX11 26).1 (TX11 26).2.1 (TX11 26).2.2.1 ∈ lw_tbl := by decide +kernel
set_option maxRecDepth 20000 in
theorem kf_X11_57 : Cond.fieldLink RX11 57 (TX11 27).1 (TX11 27).2.1 (TX11 27).2.2.1 ∈ lw_tbl := by decide +kernel
set_option maxRecDepth 20000 in
theorem kf_X11_60 : Cond.fieldLink RX11 60 (TX11 28).1 (TX11 28).2.1 (TX11 28).2.2.1 ∈ lw_tbl := by decide +kernel
set_option maxRecDepth 20000 in
theorem kf_X11_63 : Cond.fieldLink RX11 63 (TX11 29).1 (TX11 29).2.1 (TX11 29).2.2.1 ∈ lw_tbl := by decide +kernel
set_option maxRecDepth 20000 in
theorem kf_X11_66 : Cond.fieldLink RX11 66 (TX11 30).1 (TX11 30).2.1 (TX11 30).2.2.1 ∈ lw_tbl := by decide +kernel
set_option maxRecDepth 20000 in
theorem kf_X11_69 : Cond.fieldLink RX11 69 (TX11 32).1 (TX11 32).2.1 (TX11 32).2.2.1 ∈ lw_tbl := by decide +kernel
set_option maxRecDepth 20000 in
theorem kf_X11_72 : Cond.fieldLink RX11 72 (TX11 33).1 (TX11 33).2.1 (TX11 33).2.2.1 ∈ lw_tbl := by decide +kernel
set_option maxRecDepth 20000 in
theorem kf_X11_75 : Cond.fieldLink RX11 75 (TX11 34).1 (TX11 34).2.1 (TX11 34).2.2.1 ∈ lw_tbl := by decide +kernel
set_option maxRecDepth 20000 in
theorem kf_X11_78 : Cond.fieldLink RX11 78 (TX11 35).1 (TX11 35).2.1 (TX11 35).2.2.1 ∈ lw_tbl := by decide +kernel
set_option maxRecDepth 20000 in
theorem kf_X11_81 : Cond.fieldLink RX11 81 (TX11 36).1 (TX11 36).2.1 (TX11 36).2.2.1 ∈ lw_tbl := by decide +kernel
set_option maxRecDepth 20000 in
theorem kf_X11_84 : Cond.fieldLink RX11 84 (TX11 37).1 (TX11 37).2.1 (TX11 37).2.2.1 ∈ lw_tbl := by decide +kernel
set_option maxRecDepth 20000 in
theorem kk_X11_87 : Cond.constant RX11 87 (80601) ∈ lw_tbl := by decide +kernel
set_option maxRecDepth 20000 in
theorem kf_X11_88 : Cond.fieldLink RX11 88 (TX11 40).1 (TX11 40).2.1 (TX11 40).2.2.1 ∈ lw_tbl := by decide +kernel
set_option maxRecDepth 20000 in
theorem kf_X11_91 : Cond.fieldLink RX11 91 (TX11 41).1 (TX11 41).2.1 (TX11 41).2.2.1 ∈ lw_tbl := by decide +kernel
set_option maxRecDepth 20000 in
theorem kf_X11_94 : Cond.fieldLink RX11 94 (TX11 43).1 (TX11 43).2.1 (TX11 43).2.2.1 ∈ lw_tbl := by decide +kernel
set_option maxRecDepth 20000 in
theorem kf_X11_97 : Cond.fieldLink RX11 97 (TX11 45).1 (TX11 45).2.1 (TX11 45).2.2.1 ∈ lw_tbl := by decide +kernel
set_option maxRecDepth 20000 in
theorem kco_X11_in : Cond.code yX11_in cX11_in 3 (some .boolean) ∈ lw_tbl := by decide +kernel
set_option maxRecDepth 20000 in
theorem kc_X11_100 : zSS RX11 100 yX11_in cX11_in 3 (some .boolean) 3 := ⟨⟨by decide +kernel, kco_X11_in, kn_11, by decide +kernel⟩, by decide +kernel⟩
set_option maxRecDepth 20000 in
theorem kk_X11_104 : Cond.constantLong RX11 104 (255) ∈ lw_tbl := by decide +kernel
set_option maxRecDepth 20000 in
theorem kco_X11_isByte : Cond.code yX11_isByte cX11_isByte 1 (some .boolean) ∈ lw_tbl := by decide +kernel
set_option maxRecDepth 20000 in
theorem kc_X11_106 : zSS RX11 106 yX11_isByte cX11_isByte 1 (some .boolean) 1 := ⟨⟨by decide +kernel, kco_X11_isByte, kn_11, by decide +kernel⟩, by decide +kernel⟩
set_option maxRecDepth 20000 in
theorem kf_X11_110 : Cond.fieldLink RX11 110 (TX11 1).1 (TX11 1).2.1 (TX11 1).2.2.1 ∈ lw_tbl := by decide +kernel
set_option maxRecDepth 20000 in
theorem kf_X11_113 : Cond.fieldLink RX11 113 (TX11 12).1 (TX11 12).2.1 (TX11 12).2.2.1 ∈ lw_tbl := by decide +kernel
set_option maxRecDepth 20000 in
theorem kf_X11_116 : Cond.fieldLink RX11 116 (TX11 13).1 (TX11 13).2.1 (TX11 13).2.2.1 ∈ lw_tbl := by decide +kernel
set_option maxRecDepth 20000 in
theorem kf_X11_119 : Cond.fieldLink RX11 119 (TX11 17).1 (TX11 17).2.1 (TX11 17).2.2.1 ∈ lw_tbl := by decide +kernel
set_option maxRecDepth 20000 in
theorem kf_X11_123 : Cond.fieldLink RX11 123 (TX11 18).1 (TX11 18).2.1 (TX11 18).2.2.1 ∈ lw_tbl := by decide +kernel
set_option maxRecDepth 20000 in
theorem kco_X11_put : Cond.code yX11_put cX11_put 2 none ∈ lw_tbl := by decide +kernel
set_option maxRecDepth 20000 in
theorem kc_X11_126 : zSV RX11 126 yX11_put cX11_put 2 none 1 11 := ⟨⟨by decide +kernel, kco_X11_put, kn_11, by decide +kernel⟩, by decide +kernel, by decide +kernel, _, rfl, rfl⟩
set_option maxRecDepth 20000 in
theorem kf_X11_130 : Cond.fieldLink RX11 130 (TX11 11).1 (TX11 11).2.1 (TX11 11).2.2.1 ∈ lw_tbl := by decide +kernel
set_option maxRecDepth 20000 in
theorem kco_X11_blame : Cond.code yX11_blame cX11_blame 3 (some .int) ∈ lw_tbl := by decide +kernel
set_option maxRecDepth 20000 in
theorem kc_X11_133 : zSV RX11 133 yX11_blame cX11_blame 3 (some .int) 2 11 := ⟨⟨by decide +kernel, kco_X11_blame, kn_11, by decide +kernel⟩, by decide +kernel, by decide +kernel, _, rfl, rfl⟩
set_option maxRecDepth 20000 in
theorem kco_X11_itemByte : Cond.code yX11_itemByte cX11_itemByte 2 (some .int) ∈ lw_tbl := by decide +kernel
set_option maxRecDepth 20000 in
theorem kc_X11_137 : zSV RX11 137 yX11_itemByte cX11_itemByte 2 (some .int) 0 11 := ⟨⟨by decide +kernel, kco_X11_itemByte, kn_11, by decide +kernel⟩, by decide +kernel, by decide +kernel, _, rfl, rfl⟩
set_option maxRecDepth 20000 in
theorem kco_X11_putAll : Cond.code yX11_putAll cX11_putAll 4 none ∈ lw_tbl := by decide +kernel
set_option maxRecDepth 20000 in
theorem kc_X11_141 : zSV RX11 141 yX11_putAll cX11_putAll 4 none 2 11 := ⟨⟨by decide +kernel, kco_X11_putAll, kn_11, by decide +kernel⟩, by decide +kernel, by decide +kernel, _, rfl, rfl⟩
set_option maxRecDepth 20000 in
theorem kk_X11_145 : Cond.constantLong RX11 145 (-1) ∈ lw_tbl := by decide +kernel
set_option maxRecDepth 20000 in
theorem kf_X11_147 : Cond.fieldLink RX11 147 (TX11 16).1 (TX11 16).2.1 (TX11 16).2.2.1 ∈ lw_tbl := by decide +kernel
set_option maxRecDepth 20000 in
theorem kco_X11_bracket : Cond.code yX11_bracket cX11_bracket 7 none ∈ lw_tbl := by decide +kernel
set_option maxRecDepth 20000 in
theorem kc_X11_150 : zSV RX11 150 yX11_bracket cX11_bracket 7 none 0 11 := ⟨⟨by decide +kernel, kco_X11_bracket, kn_11, by decide +kernel⟩, by decide +kernel, by decide +kernel, _, rfl, rfl⟩
set_option maxRecDepth 20000 in
theorem kco_X11_element : Cond.code yX11_element cX11_element 3 none ∈ lw_tbl := by decide +kernel
set_option maxRecDepth 20000 in
theorem kc_X11_153 : zSV RX11 153 yX11_element cX11_element 3 none 0 11 := ⟨⟨by decide +kernel, kco_X11_element, kn_11, by decide +kernel⟩, by decide +kernel, by decide +kernel, _, rfl, rfl⟩
set_option maxRecDepth 20000 in
theorem kco_X11_isThere : Cond.code yX11_isThere cX11_isThere 2 (some .boolean) ∈ lw_tbl := by decide +kernel
set_option maxRecDepth 20000 in
theorem kc_X11_156 : zSV RX11 156 yX11_isThere cX11_isThere 2 (some .boolean) 1 11 := ⟨⟨by decide +kernel, kco_X11_isThere, kn_11, by decide +kernel⟩, by decide +kernel, by decide +kernel, _, rfl, rfl⟩
set_option maxRecDepth 20000 in
theorem kf_X11_159 : Cond.fieldLink RX11 159 (TX11 6).1 (TX11 6).2.1 (TX11 6).2.2.1 ∈ lw_tbl := by decide +kernel
set_option maxRecDepth 20000 in
theorem kf_X11_162 : Cond.fieldLink RX11 162 (TX11 3).1 (TX11 3).2.1 (TX11 3).2.2.1 ∈ lw_tbl := by decide +kernel
set_option maxRecDepth 20000 in
theorem kco_X11_remember : Cond.code yX11_remember cX11_remember 3 none ∈ lw_tbl := by decide +kernel
set_option maxRecDepth 20000 in
theorem kc_X11_165 : zSV RX11 165 yX11_remember cX11_remember 3 none 0 11 := ⟨⟨by decide +kernel, kco_X11_remember, kn_11, by decide +kernel⟩, by decide +kernel, by decide +kernel, _, rfl, rfl⟩
set_option maxRecDepth 20000 in
theorem kco_X11_isPart : Cond.code yX11_isPart cX11_isPart 3 (some .boolean) ∈ lw_tbl := by decide +kernel
set_option maxRecDepth 20000 in
theorem kc_X11_168 : zSV RX11 168 yX11_isPart cX11_isPart 3 (some .boolean) 2 11 := ⟨⟨by decide +kernel, kco_X11_isPart, kn_11, by decide +kernel⟩, by decide +kernel, by decide +kernel, _, rfl, rfl⟩
set_option maxRecDepth 20000 in
theorem kf_X11_172 : Cond.fieldLink RX11 172 (TX11 21).1 (TX11 21).2.1 (TX11 21).2.2.1 ∈ lw_tbl := by decide +kernel
set_option maxRecDepth 20000 in
theorem kf_X11_175 : Cond.fieldLink RX11 175 (TX11 23).1 (TX11 23).2.1 (TX11 23).2.2.1 ∈ lw_tbl := by decide +kernel
set_option maxRecDepth 20000 in
theorem kco_X11_fits : Cond.code yX11_fits cX11_fits 3 (some .boolean) ∈ lw_tbl := by decide +kernel
set_option maxRecDepth 20000 in
theorem kc_X11_178 : zSV RX11 178 yX11_fits cX11_fits 3 (some .boolean) 2 11 := ⟨⟨by decide +kernel, kco_X11_fits, kn_11, by decide +kernel⟩, by decide +kernel, by decide +kernel, _, rfl, rfl⟩
set_option maxRecDepth 20000 in
theorem kco_X11_better : Cond.code yX11_better cX11_better 4 none ∈ lw_tbl := by decide +kernel
set_option maxRecDepth 20000 in
theorem kc_X11_181 : zSV RX11 181 yX11_better cX11_better 4 none 3 11 := ⟨⟨by decide +kernel, kco_X11_better, kn_11, by decide +kernel⟩, by decide +kernel, by decide +kernel, _, rfl, rfl⟩
set_option maxRecDepth 20000 in
theorem kf_X11_185 : Cond.fieldLink RX11 185 (TX11 24).1 (TX11 24).2.1 (TX11 24).2.2.1 ∈ lw_tbl := by decide +kernel
set_option maxRecDepth 20000 in
theorem kco_X11_firstColumn : Cond.code yX11_firstColumn cX11_firstColumn 2 none ∈ lw_tbl := by decide +kernel
set_option maxRecDepth 20000 in
theorem kc_X11_189 : zSV RX11 189 yX11_firstColumn cX11_firstColumn 2 none 0 11 := ⟨⟨by decide +kernel, kco_X11_firstColumn, kn_11, by decide +kernel⟩, by decide +kernel, by decide +kernel, _, rfl, rfl⟩
set_option maxRecDepth 20000 in
theorem kco_X11_column : Cond.code yX11_column cX11_column 4 none ∈ lw_tbl := by decide +kernel
set_option maxRecDepth 20000 in
theorem kc_X11_192 : zSV RX11 192 yX11_column cX11_column 4 none 2 11 := ⟨⟨by decide +kernel, kco_X11_column, kn_11, by decide +kernel⟩, by decide +kernel, by decide +kernel, _, rfl, rfl⟩
set_option maxRecDepth 20000 in
theorem kco_X11_isEdits : Cond.code yX11_isEdits cX11_isEdits 1 (some .boolean) ∈ lw_tbl := by decide +kernel
set_option maxRecDepth 20000 in
theorem kc_X11_196 : zSS RX11 196 yX11_isEdits cX11_isEdits 1 (some .boolean) 1 := ⟨⟨by decide +kernel, kco_X11_isEdits, kn_11, by decide +kernel⟩, by decide +kernel⟩
set_option maxRecDepth 20000 in
theorem kco_X11_loadPattern : Cond.code yX11_loadPattern cX11_loadPattern 3 none ∈ lw_tbl := by decide +kernel
set_option maxRecDepth 20000 in
theorem kc_X11_199 : zSV RX11 199 yX11_loadPattern cX11_loadPattern 3 none 1 11 := ⟨⟨by decide +kernel, kco_X11_loadPattern, kn_11, by decide +kernel⟩, by decide +kernel, by decide +kernel, _, rfl, rfl⟩
set_option maxRecDepth 20000 in
theorem kco_X11_loadBytes : Cond.code yX11_loadBytes cX11_loadBytes 4 none ∈ lw_tbl := by decide +kernel
set_option maxRecDepth 20000 in
theorem kc_X11_202 : zSV RX11 202 yX11_loadBytes cX11_loadBytes 4 none 2 11 := ⟨⟨by decide +kernel, kco_X11_loadBytes, kn_11, by decide +kernel⟩, by decide +kernel, by decide +kernel, _, rfl, rfl⟩
set_option maxRecDepth 20000 in
theorem kf_X11_205 : Cond.fieldLink RX11 205 (TX11 31).1 (TX11 31).2.1 (TX11 31).2.2.1 ∈ lw_tbl := by decide +kernel
set_option maxRecDepth 20000 in
theorem kf_X11_208 : Cond.fieldLink RX11 208 (TX11 39).1 (TX11 39).2.1 (TX11 39).2.2.1 ∈ lw_tbl := by decide +kernel
set_option maxRecDepth 20000 in
theorem kf_X11_211 : Cond.fieldLink RX11 211 (TX11 38).1 (TX11 38).2.1 (TX11 38).2.2.1 ∈ lw_tbl := by decide +kernel
set_option maxRecDepth 20000 in
theorem kf_X11_214 : Cond.fieldLink RX11 214 (TX11 42).1 (TX11 42).2.1 (TX11 42).2.2.1 ∈ lw_tbl := by decide +kernel
set_option maxRecDepth 20000 in
theorem kco_X11_findSteps : Cond.code yX11_findSteps cX11_findSteps 6 none ∈ lw_tbl := by decide +kernel
set_option maxRecDepth 20000 in
theorem kc_X11_217 : zSV RX11 217 yX11_findSteps cX11_findSteps 6 none 1 11 := ⟨⟨by decide +kernel, kco_X11_findSteps, kn_11, by decide +kernel⟩, by decide +kernel, by decide +kernel, _, rfl, rfl⟩
set_option maxRecDepth 20000 in
theorem kf_X11_220 : Cond.fieldLink RX11 220 (TX11 44).1 (TX11 44).2.1 (TX11 44).2.2.1 ∈ lw_tbl := by decide +kernel
set_option maxRecDepth 20000 in
theorem kco_X11_firstHit : Cond.code yX11_firstHit cX11_firstHit 4 (some .int) ∈ lw_tbl := by decide +kernel
set_option maxRecDepth 20000 in
theorem kc_X11_223 : zSV RX11 223 yX11_firstHit cX11_firstHit 4 (some .int) 2 11 := ⟨⟨by decide +kernel, kco_X11_firstHit, kn_11, by decide +kernel⟩, by decide +kernel, by decide +kernel, _, rfl, rfl⟩
set_option maxRecDepth 20000 in
theorem kco_X11_distance : Cond.code yX11_distance cX11_distance 2 (some .int) ∈ lw_tbl := by decide +kernel
set_option maxRecDepth 20000 in
theorem kc_X11_227 : zSV RX11 227 yX11_distance cX11_distance 2 (some .int) 0 11 := ⟨⟨by decide +kernel, kco_X11_distance, kn_11, by decide +kernel⟩, by decide +kernel, by decide +kernel, _, rfl, rfl⟩
set_option maxRecDepth 20000 in
theorem kq_L_7 : Cond.classLink RL 7 RX10 ∈ lw_tbl := by decide +kernel
set_option maxRecDepth 20000 in
theorem kco_X10_init : Cond.code yX10_init cX10_init 2 none ∈ lw_tbl := by decide +kernel
set_option maxRecDepth 20000 in
theorem kc_L_9 : zSI RL 9 yX10_init cX10_init 2 0 := ⟨⟨by decide +kernel, kco_X10_init, kn_10, by decide +kernel⟩, by decide +kernel, by decide +kernel⟩
set_option maxRecDepth 20000 in
theorem kq_L_10 : Cond.classLink RL 10 RX11 ∈ lw_tbl := by decide +kernel
set_option maxRecDepth 20000 in
theorem kco_X11_init : Cond.code yX11_init cX11_init 1 none ∈ lw_tbl := by decide +kernel
set_option maxRecDepth 20000 in
theorem kc_L_12 : zSI RL 12 yX11_init cX11_init 1 0 := ⟨⟨by decide +kernel, kco_X11_init, kn_11, by decide +kernel⟩, by decide +kernel, by decide +kernel⟩
set_option maxRecDepth 20000 in
theorem kk_L_13 : Cond.constantLong RL 13 (4294967295) ∈ lw_tbl := by decide +kernel
set_option maxRecDepth 20000 in
theorem kco_X10_type : Cond.code yX10_type cX10_type 5 (some .int) ∈ lw_tbl := by decide +kernel
set_option maxRecDepth 20000 in
theorem kc_L_15 : zSV RL 15 yX10_type cX10_type 5 (some .int) 2 10 := ⟨⟨by decide +kernel, kco_X10_type, kn_10, by decide +kernel⟩, by decide +kernel, by decide +kernel, _, rfl, rfl⟩
set_option maxRecDepth 20000 in
theorem kco_X11_type : Cond.code yX11_type cX11_type 5 (some .int) ∈ lw_tbl := by decide +kernel
set_option maxRecDepth 20000 in
theorem kc_L_19 : zSV RL 19 yX11_type cX11_type 5 (some .int) 2 11 := ⟨⟨by decide +kernel, kco_X11_type, kn_11, by decide +kernel⟩, by decide +kernel, by decide +kernel, _, rfl, rfl⟩
set_option maxRecDepth 20000 in
theorem kco_X10_pattern : Cond.code yX10_pattern cX10_pattern 2 (some .int) ∈ lw_tbl := by decide +kernel
set_option maxRecDepth 20000 in
theorem kc_L_20 : zSV RL 20 yX10_pattern cX10_pattern 2 (some .int) 1 10 := ⟨⟨by decide +kernel, kco_X10_pattern, kn_10, by decide +kernel⟩, by decide +kernel, by decide +kernel, _, rfl, rfl⟩
set_option maxRecDepth 20000 in
theorem kco_X11_pattern : Cond.code yX11_pattern cX11_pattern 3 (some .int) ∈ lw_tbl := by decide +kernel
set_option maxRecDepth 20000 in
theorem kc_L_24 : zSV RL 24 yX11_pattern cX11_pattern 3 (some .int) 1 11 := ⟨⟨by decide +kernel, kco_X11_pattern, kn_11, by decide +kernel⟩, by decide +kernel, by decide +kernel, _, rfl, rfl⟩
set_option maxRecDepth 20000 in
theorem kco_X10_place : Cond.code yX10_place cX10_place 1 (some .int) ∈ lw_tbl := by decide +kernel
set_option maxRecDepth 20000 in
theorem kc_L_25 : zSV RL 25 yX10_place cX10_place 1 (some .int) 0 10 := ⟨⟨by decide +kernel, kco_X10_place, kn_10, by decide +kernel⟩, by decide +kernel, by decide +kernel, _, rfl, rfl⟩
set_option maxRecDepth 20000 in
theorem kco_X11_place : Cond.code yX11_place cX11_place 1 (some .int) ∈ lw_tbl := by decide +kernel
set_option maxRecDepth 20000 in
theorem kc_L_29 : zSV RL 29 yX11_place cX11_place 1 (some .int) 0 11 := ⟨⟨by decide +kernel, kco_X11_place, kn_11, by decide +kernel⟩, by decide +kernel, by decide +kernel, _, rfl, rfl⟩
set_option maxRecDepth 20000 in
theorem kco_X10_has : Cond.code yX10_has cX10_has 4 (some .int) ∈ lw_tbl := by decide +kernel
set_option maxRecDepth 20000 in
theorem kc_L_30 : zSV RL 30 yX10_has cX10_has 4 (some .int) 3 10 := ⟨⟨by decide +kernel, kco_X10_has, kn_10, by decide +kernel⟩, by decide +kernel, by decide +kernel, _, rfl, rfl⟩
set_option maxRecDepth 20000 in
theorem kco_X11_has : Cond.code yX11_has cX11_has 6 (some .int) ∈ lw_tbl := by decide +kernel
set_option maxRecDepth 20000 in
theorem kc_L_34 : zSV RL 34 yX11_has cX11_has 6 (some .int) 3 11 := ⟨⟨by decide +kernel, kco_X11_has, kn_11, by decide +kernel⟩, by decide +kernel, by decide +kernel, _, rfl, rfl⟩
set_option maxRecDepth 20000 in
theorem kco_X10_insert : Cond.code yX10_insert cX10_insert 2 (some .int) ∈ lw_tbl := by decide +kernel
set_option maxRecDepth 20000 in
theorem kc_L_35 : zSV RL 35 yX10_insert cX10_insert 2 (some .int) 1 10 := ⟨⟨by decide +kernel, kco_X10_insert, kn_10, by decide +kernel⟩, by decide +kernel, by decide +kernel, _, rfl, rfl⟩
set_option maxRecDepth 20000 in
theorem kco_X11_insert : Cond.code yX11_insert cX11_insert 3 (some .int) ∈ lw_tbl := by decide +kernel
set_option maxRecDepth 20000 in
theorem kc_L_38 : zSV RL 38 yX11_insert cX11_insert 3 (some .int) 1 11 := ⟨⟨by decide +kernel, kco_X11_insert, kn_11, by decide +kernel⟩, by decide +kernel, by decide +kernel, _, rfl, rfl⟩
set_option maxRecDepth 20000 in
theorem kco_X10_cut : Cond.code yX10_cut cX10_cut 3 (some .int) ∈ lw_tbl := by decide +kernel
set_option maxRecDepth 20000 in
theorem kc_L_39 : zSV RL 39 yX10_cut cX10_cut 3 (some .int) 2 10 := ⟨⟨by decide +kernel, kco_X10_cut, kn_10, by decide +kernel⟩, by decide +kernel, by decide +kernel, _, rfl, rfl⟩
set_option maxRecDepth 20000 in
theorem kco_X11_cut : Cond.code yX11_cut cX11_cut 4 (some .int) ∈ lw_tbl := by decide +kernel
set_option maxRecDepth 20000 in
theorem kc_L_43 : zSV RL 43 yX11_cut cX11_cut 4 (some .int) 2 11 := ⟨⟨by decide +kernel, kco_X11_cut, kn_11, by decide +kernel⟩, by decide +kernel, by decide +kernel, _, rfl, rfl⟩
set_option maxRecDepth 20000 in
theorem kco_X10_undo : Cond.code yX10_undo cX10_undo 1 (some .int) ∈ lw_tbl := by decide +kernel
set_option maxRecDepth 20000 in
theorem kc_L_44 : zSV RL 44 yX10_undo cX10_undo 1 (some .int) 0 10 := ⟨⟨by decide +kernel, kco_X10_undo, kn_10, by decide +kernel⟩, by decide +kernel, by decide +kernel, _, rfl, rfl⟩
set_option maxRecDepth 20000 in
theorem kco_X11_undo : Cond.code yX11_undo cX11_undo 2 (some .int) ∈ lw_tbl := by decide +kernel
set_option maxRecDepth 20000 in
theorem kc_L_47 : zSV RL 47 yX11_undo cX11_undo 2 (some .int) 0 11 := ⟨⟨by decide +kernel, kco_X11_undo, kn_11, by decide +kernel⟩, by decide +kernel, by decide +kernel, _, rfl, rfl⟩
set_option maxRecDepth 20000 in
theorem kco_X10_byteAt : Cond.code yX10_byteAt cX10_byteAt 2 (some .int) ∈ lw_tbl := by decide +kernel
set_option maxRecDepth 20000 in
theorem kc_L_48 : zSV RL 48 yX10_byteAt cX10_byteAt 2 (some .int) 1 10 := ⟨⟨by decide +kernel, kco_X10_byteAt, kn_10, by decide +kernel⟩, by decide +kernel, by decide +kernel, _, rfl, rfl⟩
set_option maxRecDepth 20000 in
theorem kco_X11_byteAt : Cond.code yX11_byteAt cX11_byteAt 2 (some .int) ∈ lw_tbl := by decide +kernel
set_option maxRecDepth 20000 in
theorem kc_L_51 : zSV RL 51 yX11_byteAt cX11_byteAt 2 (some .int) 1 11 := ⟨⟨by decide +kernel, kco_X11_byteAt, kn_11, by decide +kernel⟩, by decide +kernel, by decide +kernel, _, rfl, rfl⟩
set_option maxRecDepth 20000 in
theorem kco_X10_length : Cond.code yX10_length cX10_length 1 (some .int) ∈ lw_tbl := by decide +kernel
set_option maxRecDepth 20000 in
theorem kc_L_52 : zSV RL 52 yX10_length cX10_length 1 (some .int) 0 10 := ⟨⟨by decide +kernel, kco_X10_length, kn_10, by decide +kernel⟩, by decide +kernel, by decide +kernel, _, rfl, rfl⟩
set_option maxRecDepth 20000 in
theorem kco_X11_length : Cond.code yX11_length cX11_length 1 (some .int) ∈ lw_tbl := by decide +kernel
set_option maxRecDepth 20000 in
theorem kc_L_55 : zSV RL 55 yX11_length cX11_length 1 (some .int) 0 11 := ⟨⟨by decide +kernel, kco_X11_length, kn_11, by decide +kernel⟩, by decide +kernel, by decide +kernel, _, rfl, rfl⟩
set_option maxRecDepth 20000 in
theorem kco_X10_find : Cond.code yX10_find cX10_find 5 (some .int) ∈ lw_tbl := by decide +kernel
set_option maxRecDepth 20000 in
theorem kc_L_56 : zSV RL 56 yX10_find cX10_find 5 (some .int) 3 10 := ⟨⟨by decide +kernel, kco_X10_find, kn_10, by decide +kernel⟩, by decide +kernel, by decide +kernel, _, rfl, rfl⟩
set_option maxRecDepth 20000 in
theorem kco_X11_find : Cond.code yX11_find cX11_find 5 (some .int) ∈ lw_tbl := by decide +kernel
set_option maxRecDepth 20000 in
theorem kc_L_60 : zSV RL 60 yX11_find cX11_find 5 (some .int) 3 11 := ⟨⟨by decide +kernel, kco_X11_find, kn_11, by decide +kernel⟩, by decide +kernel, by decide +kernel, _, rfl, rfl⟩
set_option maxRecDepth 20000 in
theorem kco_X10_hit : Cond.code yX10_hit cX10_hit 3 (some .int) ∈ lw_tbl := by decide +kernel
set_option maxRecDepth 20000 in
theorem kc_L_61 : zSV RL 61 yX10_hit cX10_hit 3 (some .int) 2 10 := ⟨⟨by decide +kernel, kco_X10_hit, kn_10, by decide +kernel⟩, by decide +kernel, by decide +kernel, _, rfl, rfl⟩
set_option maxRecDepth 20000 in
theorem kco_X11_hit : Cond.code yX11_hit cX11_hit 3 (some .int) ∈ lw_tbl := by decide +kernel
set_option maxRecDepth 20000 in
theorem kc_L_64 : zSV RL 64 yX11_hit cX11_hit 3 (some .int) 2 11 := ⟨⟨by decide +kernel, kco_X11_hit, kn_11, by decide +kernel⟩, by decide +kernel, by decide +kernel, _, rfl, rfl⟩
set_option maxRecDepth 20000 in
theorem kco_X10_step : Cond.code yX10_step cX10_step 3 (some .int) ∈ lw_tbl := by decide +kernel
set_option maxRecDepth 20000 in
theorem kc_L_65 : zSV RL 65 yX10_step cX10_step 3 (some .int) 2 10 := ⟨⟨by decide +kernel, kco_X10_step, kn_10, by decide +kernel⟩, by decide +kernel, by decide +kernel, _, rfl, rfl⟩
set_option maxRecDepth 20000 in
theorem kco_X11_step : Cond.code yX11_step cX11_step 3 (some .int) ∈ lw_tbl := by decide +kernel
set_option maxRecDepth 20000 in
theorem kc_L_68 : zSV RL 68 yX11_step cX11_step 3 (some .int) 2 11 := ⟨⟨by decide +kernel, kco_X11_step, kn_11, by decide +kernel⟩, by decide +kernel, by decide +kernel, _, rfl, rfl⟩
set_option maxRecDepth 20000 in
theorem kco_X10_nearest : Cond.code yX10_nearest cX10_nearest 7 (some .int) ∈ lw_tbl := by decide +kernel
set_option maxRecDepth 20000 in
theorem kc_L_69 : zSV RL 69 yX10_nearest cX10_nearest 7 (some .int) 3 10 := ⟨⟨by decide +kernel, kco_X10_nearest, kn_10, by decide +kernel⟩, by decide +kernel, by decide +kernel, _, rfl, rfl⟩
set_option maxRecDepth 20000 in
theorem kco_X11_nearest : Cond.code yX11_nearest cX11_nearest 7 (some .int) ∈ lw_tbl := by decide +kernel
set_option maxRecDepth 20000 in
theorem kc_L_73 : zSV RL 73 yX11_nearest cX11_nearest 7 (some .int) 3 11 := ⟨⟨by decide +kernel, kco_X11_nearest, kn_11, by decide +kernel⟩, by decide +kernel, by decide +kernel, _, rfl, rfl⟩
set_option maxRecDepth 20000 in
theorem kco_X10_lines : Cond.code yX10_lines cX10_lines 8 (some .int) ∈ lw_tbl := by decide +kernel
set_option maxRecDepth 20000 in
theorem kc_L_74 : zSV RL 74 yX10_lines cX10_lines 8 (some .int) 3 10 := ⟨⟨by decide +kernel, kco_X10_lines, kn_10, by decide +kernel⟩, by decide +kernel, by decide +kernel, _, rfl, rfl⟩
set_option maxRecDepth 20000 in
theorem kco_X11_lines : Cond.code yX11_lines cX11_lines 7 (some .int) ∈ lw_tbl := by decide +kernel
set_option maxRecDepth 20000 in
theorem kc_L_77 : zSV RL 77 yX11_lines cX11_lines 7 (some .int) 3 11 := ⟨⟨by decide +kernel, kco_X11_lines, kn_11, by decide +kernel⟩, by decide +kernel, by decide +kernel, _, rfl, rfl⟩
set_option maxRecDepth 20000 in
theorem kco_X10_line : Cond.code yX10_line cX10_line 2 (some .int) ∈ lw_tbl := by decide +kernel
set_option maxRecDepth 20000 in
theorem kc_L_78 : zSV RL 78 yX10_line cX10_line 2 (some .int) 1 10 := ⟨⟨by decide +kernel, kco_X10_line, kn_10, by decide +kernel⟩, by decide +kernel, by decide +kernel, _, rfl, rfl⟩
set_option maxRecDepth 20000 in
theorem kco_X11_line : Cond.code yX11_line cX11_line 2 (some .int) ∈ lw_tbl := by decide +kernel
set_option maxRecDepth 20000 in
theorem kc_L_81 : zSV RL 81 yX11_line cX11_line 2 (some .int) 1 11 := ⟨⟨by decide +kernel, kco_X11_line, kn_11, by decide +kernel⟩, by decide +kernel, by decide +kernel, _, rfl, rfl⟩
set_option maxRecDepth 20000 in
theorem kco_X10_replace : Cond.code yX10_replace cX10_replace 5 (some .int) ∈ lw_tbl := by decide +kernel
set_option maxRecDepth 20000 in
theorem kc_L_82 : zSV RL 82 yX10_replace cX10_replace 5 (some .int) 3 10 := ⟨⟨by decide +kernel, kco_X10_replace, kn_10, by decide +kernel⟩, by decide +kernel, by decide +kernel, _, rfl, rfl⟩
set_option maxRecDepth 20000 in
theorem kco_X11_replace : Cond.code yX11_replace cX11_replace 11 (some .int) ∈ lw_tbl := by decide +kernel
set_option maxRecDepth 20000 in
theorem kc_L_85 : zSV RL 85 yX11_replace cX11_replace 11 (some .int) 3 11 := ⟨⟨by decide +kernel, kco_X11_replace, kn_11, by decide +kernel⟩, by decide +kernel, by decide +kernel, _, rfl, rfl⟩
set_option maxRecDepth 20000 in
theorem kco_X10_whole : Cond.code yX10_whole cX10_whole 7 (some .int) ∈ lw_tbl := by decide +kernel
set_option maxRecDepth 20000 in
theorem kc_L_86 : zSV RL 86 yX10_whole cX10_whole 7 (some .int) 5 10 := ⟨⟨by decide +kernel, kco_X10_whole, kn_10, by decide +kernel⟩, by decide +kernel, by decide +kernel, _, rfl, rfl⟩
set_option maxRecDepth 20000 in
theorem kco_X11_whole : Cond.code yX11_whole cX11_whole 7 (some .int) ∈ lw_tbl := by decide +kernel
set_option maxRecDepth 20000 in
theorem kc_L_90 : zSV RL 90 yX11_whole cX11_whole 7 (some .int) 5 11 := ⟨⟨by decide +kernel, kco_X11_whole, kn_11, by decide +kernel⟩, by decide +kernel, by decide +kernel, _, rfl, rfl⟩
set_option maxRecDepth 20000 in
theorem kco_X10_which : Cond.code yX10_which cX10_which 8 (some .int) ∈ lw_tbl := by decide +kernel
set_option maxRecDepth 20000 in
theorem kc_L_91 : zSV RL 91 yX10_which cX10_which 8 (some .int) 3 10 := ⟨⟨by decide +kernel, kco_X10_which, kn_10, by decide +kernel⟩, by decide +kernel, by decide +kernel, _, rfl, rfl⟩
set_option maxRecDepth 20000 in
theorem kco_X11_which : Cond.code yX11_which cX11_which 8 (some .int) ∈ lw_tbl := by decide +kernel
set_option maxRecDepth 20000 in
theorem kc_L_94 : zSV RL 94 yX11_which cX11_which 8 (some .int) 3 11 := ⟨⟨by decide +kernel, kco_X11_which, kn_11, by decide +kernel⟩, by decide +kernel, by decide +kernel, _, rfl, rfl⟩
set_option maxRecDepth 20000 in
theorem kco_X10_apart : Cond.code yX10_apart cX10_apart 8 (some .int) ∈ lw_tbl := by decide +kernel
set_option maxRecDepth 20000 in
theorem kc_L_95 : zSV RL 95 yX10_apart cX10_apart 8 (some .int) 6 10 := ⟨⟨by decide +kernel, kco_X10_apart, kn_10, by decide +kernel⟩, by decide +kernel, by decide +kernel, _, rfl, rfl⟩
set_option maxRecDepth 20000 in
theorem kco_X11_apart : Cond.code yX11_apart cX11_apart 9 (some .int) ∈ lw_tbl := by decide +kernel
set_option maxRecDepth 20000 in
theorem kc_L_99 : zSV RL 99 yX11_apart cX11_apart 9 (some .int) 6 11 := ⟨⟨by decide +kernel, kco_X11_apart, kn_11, by decide +kernel⟩, by decide +kernel, by decide +kernel, _, rfl, rfl⟩
